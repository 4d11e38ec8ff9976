/-! What each step changes of what was read. -/
theorem za_zfc_emi {d : zDat} {s i m : Nat} : zfc (zemi d s i m) = zfc d := rfl
theorem za_zfc_ende {d : zDat} {l : Nat} {e : Nat × Nat × Nat} : zfc (zende d l e) = zfc d := rfl
theorem za_zfc_next {d : zDat} {l n : Nat} : zfc (znext d l n) = zfc d := rfl
theorem za_zfc_body {d : zDat} {l n : Nat} : zfc (zbody d l n) = zfc d := rfl
theorem za_zfc_othr {d : zDat} {q l n : Nat} : zfc (zothr d q l n) = zfc d := rfl
theorem za_zfc_tgt {d : zDat} {q : Nat} : zfc (ztgt d q) = zfc d := rfl
theorem za_zfc_go {d : zDat} {q : Nat} {e : Nat × Nat × Nat} : zfc (zgo d q e) = zfc d := rfl
theorem za_zfc_addn {d : zDat} {t : Nat} : zfc (zaddn d t) = zfc d := rfl
theorem za_zfc_add0 {d : zDat}  : zfc (zadd0 d) = zfc d := rfl
theorem za_zfc_addp {d : zDat} {x : Int} : zfc (zaddp d x) = zfc d := rfl
theorem za_zfc_addl {d : zDat} {k : Int} {t n b : Nat} : zfc (zaddl d k t n b) = zfc d := rfl
theorem za_zfc_addc {d : zDat} {l : List (Nat × Nat × Nat)} : zfc (zaddc d l) = zfc d := rfl
theorem za_zfc_addf {d : zDat} {i : Nat} : zfc (zaddf d i) = zfc d + 1 := rfl
theorem za_zfc_addb {d : zDat} {t : Nat} : zfc (zaddb d t) = zfc d := rfl
theorem za_znm_emi {d : zDat} {s i m : Nat} : znm (zemi d s i m) = znm d := rfl
theorem za_znm_ende {d : zDat} {l : Nat} {e : Nat × Nat × Nat} : znm (zende d l e) = znm d := rfl
theorem za_znm_next {d : zDat} {l n : Nat} : znm (znext d l n) = znm d := rfl
theorem za_znm_body {d : zDat} {l n : Nat} : znm (zbody d l n) = znm d := rfl
theorem za_znm_othr {d : zDat} {q l n : Nat} : znm (zothr d q l n) = znm d := rfl
theorem za_znm_tgt {d : zDat} {q : Nat} : znm (ztgt d q) = znm d := rfl
theorem za_znm_go {d : zDat} {q : Nat} {e : Nat × Nat × Nat} : znm (zgo d q e) = znm d := rfl
theorem za_znm_addn {d : zDat} {t : Nat} : znm (zaddn d t) = zup (znm d) (zfc d) t := rfl
theorem za_znm_add0 {d : zDat}  : znm (zadd0 d) = znm d := rfl
theorem za_znm_addp {d : zDat} {x : Int} : znm (zaddp d x) = znm d := rfl
theorem za_znm_addl {d : zDat} {k : Int} {t n b : Nat} : znm (zaddl d k t n b) = znm d := rfl
theorem za_znm_addc {d : zDat} {l : List (Nat × Nat × Nat)} : znm (zaddc d l) = znm d := rfl
theorem za_znm_addf {d : zDat} {i : Nat} : znm (zaddf d i) = znm d := rfl
theorem za_znm_addb {d : zDat} {t : Nat} : znm (zaddb d t) = znm d := rfl
theorem za_zpc_emi {d : zDat} {s i m : Nat} : zpc (zemi d s i m) = zpc d := rfl
theorem za_zpc_ende {d : zDat} {l : Nat} {e : Nat × Nat × Nat} : zpc (zende d l e) = zpc d := rfl
theorem za_zpc_next {d : zDat} {l n : Nat} : zpc (znext d l n) = zpc d := rfl
theorem za_zpc_body {d : zDat} {l n : Nat} : zpc (zbody d l n) = zpc d := rfl
theorem za_zpc_othr {d : zDat} {q l n : Nat} : zpc (zothr d q l n) = zpc d := rfl
theorem za_zpc_tgt {d : zDat} {q : Nat} : zpc (ztgt d q) = zpc d := rfl
theorem za_zpc_go {d : zDat} {q : Nat} {e : Nat × Nat × Nat} : zpc (zgo d q e) = zpc d := rfl
theorem za_zpc_addn {d : zDat} {t : Nat} : zpc (zaddn d t) = zpc d := rfl
theorem za_zpc_add0 {d : zDat}  : zpc (zadd0 d) = zup (zpc d) (zfc d) 0 := rfl
theorem za_zpc_addp {d : zDat} {x : Int} : zpc (zaddp d x) = zup (zpc d) (zfc d) (zpc d (zfc d) + 1) := rfl
theorem za_zpc_addl {d : zDat} {k : Int} {t n b : Nat} : zpc (zaddl d k t n b) = zpc d := rfl
theorem za_zpc_addc {d : zDat} {l : List (Nat × Nat × Nat)} : zpc (zaddc d l) = zpc d := rfl
theorem za_zpc_addf {d : zDat} {i : Nat} : zpc (zaddf d i) = zpc d := rfl
theorem za_zpc_addb {d : zDat} {t : Nat} : zpc (zaddb d t) = zpc d := rfl
theorem za_zpl_emi {d : zDat} {s i m : Nat} : zpl (zemi d s i m) = zpl d := rfl
theorem za_zpl_ende {d : zDat} {l : Nat} {e : Nat × Nat × Nat} : zpl (zende d l e) = zpl d := rfl
theorem za_zpl_next {d : zDat} {l n : Nat} : zpl (znext d l n) = zpl d := rfl
theorem za_zpl_body {d : zDat} {l n : Nat} : zpl (zbody d l n) = zpl d := rfl
theorem za_zpl_othr {d : zDat} {q l n : Nat} : zpl (zothr d q l n) = zpl d := rfl
theorem za_zpl_tgt {d : zDat} {q : Nat} : zpl (ztgt d q) = zpl d := rfl
theorem za_zpl_go {d : zDat} {q : Nat} {e : Nat × Nat × Nat} : zpl (zgo d q e) = zpl d := rfl
theorem za_zpl_addn {d : zDat} {t : Nat} : zpl (zaddn d t) = zpl d := rfl
theorem za_zpl_add0 {d : zDat}  : zpl (zadd0 d) = zpl d := rfl
theorem za_zpl_addp {d : zDat} {x : Int} : zpl (zaddp d x) = zup (zpl d) (zfc d) (zup (zpl d (zfc d)) (zpc d (zfc d)) x) := rfl
theorem za_zpl_addl {d : zDat} {k : Int} {t n b : Nat} : zpl (zaddl d k t n b) = zpl d := rfl
theorem za_zpl_addc {d : zDat} {l : List (Nat × Nat × Nat)} : zpl (zaddc d l) = zpl d := rfl
theorem za_zpl_addf {d : zDat} {i : Nat} : zpl (zaddf d i) = zpl d := rfl
theorem za_zpl_addb {d : zDat} {t : Nat} : zpl (zaddb d t) = zpl d := rfl
theorem za_zlc_emi {d : zDat} {s i m : Nat} : zlc (zemi d s i m) = zlc d := rfl
theorem za_zlc_ende {d : zDat} {l : Nat} {e : Nat × Nat × Nat} : zlc (zende d l e) = zlc d := rfl
theorem za_zlc_next {d : zDat} {l n : Nat} : zlc (znext d l n) = zlc d := rfl
theorem za_zlc_body {d : zDat} {l n : Nat} : zlc (zbody d l n) = zlc d := rfl
theorem za_zlc_othr {d : zDat} {q l n : Nat} : zlc (zothr d q l n) = zlc d := rfl
theorem za_zlc_tgt {d : zDat} {q : Nat} : zlc (ztgt d q) = zlc d := rfl
theorem za_zlc_go {d : zDat} {q : Nat} {e : Nat × Nat × Nat} : zlc (zgo d q e) = zlc d := rfl
theorem za_zlc_addn {d : zDat} {t : Nat} : zlc (zaddn d t) = zlc d := rfl
theorem za_zlc_add0 {d : zDat}  : zlc (zadd0 d) = zlc d := rfl
theorem za_zlc_addp {d : zDat} {x : Int} : zlc (zaddp d x) = zlc d := rfl
theorem za_zlc_addl {d : zDat} {k : Int} {t n b : Nat} : zlc (zaddl d k t n b) = zlc d + 1 := rfl
theorem za_zlc_addc {d : zDat} {l : List (Nat × Nat × Nat)} : zlc (zaddc d l) = zlc d := rfl
theorem za_zlc_addf {d : zDat} {i : Nat} : zlc (zaddf d i) = zlc d := rfl
theorem za_zlc_addb {d : zDat} {t : Nat} : zlc (zaddb d t) = zlc d := rfl
theorem za_zln_emi {d : zDat} {s i m : Nat} : zln (zemi d s i m) = zln d := rfl
theorem za_zln_ende {d : zDat} {l : Nat} {e : Nat × Nat × Nat} : zln (zende d l e) = zln d := rfl
theorem za_zln_next {d : zDat} {l n : Nat} : zln (znext d l n) = zln d := rfl
theorem za_zln_body {d : zDat} {l n : Nat} : zln (zbody d l n) = zln d := rfl
theorem za_zln_othr {d : zDat} {q l n : Nat} : zln (zothr d q l n) = zln d := rfl
theorem za_zln_tgt {d : zDat} {q : Nat} : zln (ztgt d q) = zln d := rfl
theorem za_zln_go {d : zDat} {q : Nat} {e : Nat × Nat × Nat} : zln (zgo d q e) = zln d := rfl
theorem za_zln_addn {d : zDat} {t : Nat} : zln (zaddn d t) = zln d := rfl
theorem za_zln_add0 {d : zDat}  : zln (zadd0 d) = zln d := rfl
theorem za_zln_addp {d : zDat} {x : Int} : zln (zaddp d x) = zln d := rfl
theorem za_zln_addl {d : zDat} {k : Int} {t n b : Nat} : zln (zaddl d k t n b) = zup (zln d) (zlc d) (k, zfc d, t, n) := rfl
theorem za_zln_addc {d : zDat} {l : List (Nat × Nat × Nat)} : zln (zaddc d l) = zln d := rfl
theorem za_zln_addf {d : zDat} {i : Nat} : zln (zaddf d i) = zln d := rfl
theorem za_zln_addb {d : zDat} {t : Nat} : zln (zaddb d t) = zln d := rfl
theorem za_zcs_emi {d : zDat} {s i m : Nat} : zcs (zemi d s i m) = zcs d := rfl
theorem za_zcs_ende {d : zDat} {l : Nat} {e : Nat × Nat × Nat} : zcs (zende d l e) = zcs d := rfl
theorem za_zcs_next {d : zDat} {l n : Nat} : zcs (znext d l n) = zcs d := rfl
theorem za_zcs_body {d : zDat} {l n : Nat} : zcs (zbody d l n) = zcs d := rfl
theorem za_zcs_othr {d : zDat} {q l n : Nat} : zcs (zothr d q l n) = zcs d := rfl
theorem za_zcs_tgt {d : zDat} {q : Nat} : zcs (ztgt d q) = zcs d := rfl
theorem za_zcs_go {d : zDat} {q : Nat} {e : Nat × Nat × Nat} : zcs (zgo d q e) = zcs d := rfl
theorem za_zcs_addn {d : zDat} {t : Nat} : zcs (zaddn d t) = zcs d := rfl
theorem za_zcs_add0 {d : zDat}  : zcs (zadd0 d) = zcs d := rfl
theorem za_zcs_addp {d : zDat} {x : Int} : zcs (zaddp d x) = zcs d := rfl
theorem za_zcs_addl {d : zDat} {k : Int} {t n b : Nat} : zcs (zaddl d k t n b) = zcs d := rfl
theorem za_zcs_addc {d : zDat} {l : List (Nat × Nat × Nat)} : zcs (zaddc d l) = zcs d ++ l := rfl
theorem za_zcs_addf {d : zDat} {i : Nat} : zcs (zaddf d i) = zcs d := rfl
theorem za_zcs_addb {d : zDat} {t : Nat} : zcs (zaddb d t) = zcs d := rfl
theorem za_zff_emi {d : zDat} {s i m : Nat} : zff (zemi d s i m) = zff d := rfl
theorem za_zff_ende {d : zDat} {l : Nat} {e : Nat × Nat × Nat} : zff (zende d l e) = zff d := rfl
theorem za_zff_next {d : zDat} {l n : Nat} : zff (znext d l n) = zff d := rfl
theorem za_zff_body {d : zDat} {l n : Nat} : zff (zbody d l n) = zff d := rfl
theorem za_zff_othr {d : zDat} {q l n : Nat} : zff (zothr d q l n) = zff d := rfl
theorem za_zff_tgt {d : zDat} {q : Nat} : zff (ztgt d q) = zff d := rfl
theorem za_zff_go {d : zDat} {q : Nat} {e : Nat × Nat × Nat} : zff (zgo d q e) = zff d := rfl
theorem za_zff_addn {d : zDat} {t : Nat} : zff (zaddn d t) = zff d := rfl
theorem za_zff_add0 {d : zDat}  : zff (zadd0 d) = zff d := rfl
theorem za_zff_addp {d : zDat} {x : Int} : zff (zaddp d x) = zff d := rfl
theorem za_zff_addl {d : zDat} {k : Int} {t n b : Nat} : zff (zaddl d k t n b) = zff d := rfl
theorem za_zff_addc {d : zDat} {l : List (Nat × Nat × Nat)} : zff (zaddc d l) = zff d := rfl
theorem za_zff_addf {d : zDat} {i : Nat} : zff (zaddf d i) = zff d := rfl
theorem za_zff_addb {d : zDat} {t : Nat} : zff (zaddb d t) = zup (zff d) (zfc d) (t, zlc d) := rfl
theorem za_zfe_emi {d : zDat} {s i m : Nat} : zfe (zemi d s i m) = zfe d := rfl
theorem za_zfe_ende {d : zDat} {l : Nat} {e : Nat × Nat × Nat} : zfe (zende d l e) = zfe d := rfl
theorem za_zfe_next {d : zDat} {l n : Nat} : zfe (znext d l n) = zfe d := rfl
theorem za_zfe_body {d : zDat} {l n : Nat} : zfe (zbody d l n) = zfe d := rfl
theorem za_zfe_othr {d : zDat} {q l n : Nat} : zfe (zothr d q l n) = zfe d := rfl
theorem za_zfe_tgt {d : zDat} {q : Nat} : zfe (ztgt d q) = zfe d := rfl
theorem za_zfe_go {d : zDat} {q : Nat} {e : Nat × Nat × Nat} : zfe (zgo d q e) = zfe d := rfl
theorem za_zfe_addn {d : zDat} {t : Nat} : zfe (zaddn d t) = zfe d := rfl
theorem za_zfe_add0 {d : zDat}  : zfe (zadd0 d) = zfe d := rfl
theorem za_zfe_addp {d : zDat} {x : Int} : zfe (zaddp d x) = zfe d := rfl
theorem za_zfe_addl {d : zDat} {k : Int} {t n b : Nat} : zfe (zaddl d k t n b) = zfe d := rfl
theorem za_zfe_addc {d : zDat} {l : List (Nat × Nat × Nat)} : zfe (zaddc d l) = zfe d := rfl
theorem za_zfe_addf {d : zDat} {i : Nat} : zfe (zaddf d i) = zup (zfe d) (zfc d) (i, zlc d) := rfl
theorem za_zfe_addb {d : zDat} {t : Nat} : zfe (zaddb d t) = zfe d := rfl
theorem za_zaf_emi {d : zDat} {s i m : Nat} : zaf (zemi d s i m) = zup (zaf d) (zac d) (zia s, i, 0) := rfl
theorem za_zaf_ende {d : zDat} {l : Nat} {e : Nat × Nat × Nat} : zaf (zende d l e) = zup (zaf d) (zac d) e := rfl
theorem za_zaf_next {d : zDat} {l n : Nat} : zaf (znext d l n) = zaf d := rfl
theorem za_zaf_body {d : zDat} {l n : Nat} : zaf (zbody d l n) = zaf d := rfl
theorem za_zaf_othr {d : zDat} {q l n : Nat} : zaf (zothr d q l n) = zaf d := rfl
theorem za_zaf_tgt {d : zDat} {q : Nat} : zaf (ztgt d q) = zaf d := rfl
theorem za_zaf_go {d : zDat} {q : Nat} {e : Nat × Nat × Nat} : zaf (zgo d q e) = zup (zaf d) (zac d) e := rfl
theorem za_zaf_addn {d : zDat} {t : Nat} : zaf (zaddn d t) = zaf d := rfl
theorem za_zaf_add0 {d : zDat}  : zaf (zadd0 d) = zaf d := rfl
theorem za_zaf_addp {d : zDat} {x : Int} : zaf (zaddp d x) = zaf d := rfl
theorem za_zaf_addl {d : zDat} {k : Int} {t n b : Nat} : zaf (zaddl d k t n b) = zup (zaf d) (zac d) (0, 0, zlc d) := rfl
theorem za_zaf_addc {d : zDat} {l : List (Nat × Nat × Nat)} : zaf (zaddc d l) = zaf d := rfl
theorem za_zaf_addf {d : zDat} {i : Nat} : zaf (zaddf d i) = zup (zaf d) (zac d) (16, 0, 0) := rfl
theorem za_zaf_addb {d : zDat} {t : Nat} : zaf (zaddb d t) = zaf d := rfl
theorem za_ztg_emi {d : zDat} {s i m : Nat} : ztg (zemi d s i m) = zup (ztg d) (zac d) 0 := rfl
theorem za_ztg_ende {d : zDat} {l : Nat} {e : Nat × Nat × Nat} : ztg (zende d l e) = zup (ztg d) (zac d) 0 := rfl
theorem za_ztg_next {d : zDat} {l n : Nat} : ztg (znext d l n) = ztg d := rfl
theorem za_ztg_body {d : zDat} {l n : Nat} : ztg (zbody d l n) = ztg d := rfl
theorem za_ztg_othr {d : zDat} {q l n : Nat} : ztg (zothr d q l n) = zup (ztg d) q (zac d + 1) := rfl
theorem za_ztg_tgt {d : zDat} {q : Nat} : ztg (ztgt d q) = zup (ztg d) q (zac d + 1) := rfl
theorem za_ztg_go {d : zDat} {q : Nat} {e : Nat × Nat × Nat} : ztg (zgo d q e) = zup (zup (ztg d) (zac d) 0) q (zac d + 1 + 1) := rfl
theorem za_ztg_addn {d : zDat} {t : Nat} : ztg (zaddn d t) = ztg d := rfl
theorem za_ztg_add0 {d : zDat}  : ztg (zadd0 d) = ztg d := rfl
theorem za_ztg_addp {d : zDat} {x : Int} : ztg (zaddp d x) = ztg d := rfl
theorem za_ztg_addl {d : zDat} {k : Int} {t n b : Nat} : ztg (zaddl d k t n b) = zup (ztg d) (zac d) 0 := rfl
theorem za_ztg_addc {d : zDat} {l : List (Nat × Nat × Nat)} : ztg (zaddc d l) = ztg d := rfl
theorem za_ztg_addf {d : zDat} {i : Nat} : ztg (zaddf d i) = zup (ztg d) (zac d) 0 := rfl
theorem za_ztg_addb {d : zDat} {t : Nat} : ztg (zaddb d t) = ztg d := rfl
theorem za_zic_emi {d : zDat} {s i m : Nat} : zic (zemi d s i m) = zic d + 1 := rfl
theorem za_zic_ende {d : zDat} {l : Nat} {e : Nat × Nat × Nat} : zic (zende d l e) = zic d := rfl
theorem za_zic_next {d : zDat} {l n : Nat} : zic (znext d l n) = zic d := rfl
theorem za_zic_body {d : zDat} {l n : Nat} : zic (zbody d l n) = zic d := rfl
theorem za_zic_othr {d : zDat} {q l n : Nat} : zic (zothr d q l n) = zic d := rfl
theorem za_zic_tgt {d : zDat} {q : Nat} : zic (ztgt d q) = zic d := rfl
theorem za_zic_go {d : zDat} {q : Nat} {e : Nat × Nat × Nat} : zic (zgo d q e) = zic d := rfl
theorem za_zic_addn {d : zDat} {t : Nat} : zic (zaddn d t) = zic d := rfl
theorem za_zic_add0 {d : zDat}  : zic (zadd0 d) = zic d := rfl
theorem za_zic_addp {d : zDat} {x : Int} : zic (zaddp d x) = zic d := rfl
theorem za_zic_addl {d : zDat} {k : Int} {t n b : Nat} : zic (zaddl d k t n b) = zic d := rfl
theorem za_zic_addc {d : zDat} {l : List (Nat × Nat × Nat)} : zic (zaddc d l) = zic d := rfl
theorem za_zic_addf {d : zDat} {i : Nat} : zic (zaddf d i) = zic d := rfl
theorem za_zic_addb {d : zDat} {t : Nat} : zic (zaddb d t) = zic d := rfl
theorem za_zitf_emi {d : zDat} {s i m : Nat} : zitf (zemi d s i m) = zup (zitf d) (zic d) (s, i, m) := rfl
theorem za_zitf_ende {d : zDat} {l : Nat} {e : Nat × Nat × Nat} : zitf (zende d l e) = zitf d := rfl
theorem za_zitf_next {d : zDat} {l n : Nat} : zitf (znext d l n) = zitf d := rfl
theorem za_zitf_body {d : zDat} {l n : Nat} : zitf (zbody d l n) = zitf d := rfl
theorem za_zitf_othr {d : zDat} {q l n : Nat} : zitf (zothr d q l n) = zitf d := rfl
theorem za_zitf_tgt {d : zDat} {q : Nat} : zitf (ztgt d q) = zitf d := rfl
theorem za_zitf_go {d : zDat} {q : Nat} {e : Nat × Nat × Nat} : zitf (zgo d q e) = zitf d := rfl
theorem za_zitf_addn {d : zDat} {t : Nat} : zitf (zaddn d t) = zitf d := rfl
theorem za_zitf_add0 {d : zDat}  : zitf (zadd0 d) = zitf d := rfl
theorem za_zitf_addp {d : zDat} {x : Int} : zitf (zaddp d x) = zitf d := rfl
theorem za_zitf_addl {d : zDat} {k : Int} {t n b : Nat} : zitf (zaddl d k t n b) = zitf d := rfl
theorem za_zitf_addc {d : zDat} {l : List (Nat × Nat × Nat)} : zitf (zaddc d l) = zitf d := rfl
theorem za_zitf_addf {d : zDat} {i : Nat} : zitf (zaddf d i) = zitf d := rfl
theorem za_zitf_addb {d : zDat} {t : Nat} : zitf (zaddb d t) = zitf d := rfl
theorem za_zrw_emi {d : zDat} {s i m : Nat} : zrw (zemi d s i m) = zrw d := rfl
theorem za_zrw_ende {d : zDat} {l : Nat} {e : Nat × Nat × Nat} : zrw (zende d l e) = zup (zrw d) l ((zrw d l).1, (zrw d l).2.1, zic d, (zrw d l).2.2.2) := rfl
theorem za_zrw_next {d : zDat} {l n : Nat} : zrw (znext d l n) = zup (zrw d) l ((zrw d l).1, (zrw d l).2.1, (zrw d l).2.2.1, n + 1, (zrw d l).2.2.2.2) := rfl
theorem za_zrw_body {d : zDat} {l n : Nat} : zrw (zbody d l n) = zup (zrw d) l ((zrw d l).1, (zrw d l).2.1, (zrw d l).2.2.1, (zrw d l).2.2.2.1, (zrw d l).2.2.2.2.1, n + 1, (zrw d l).2.2.2.2.2.2) := rfl
theorem za_zrw_othr {d : zDat} {q l n : Nat} : zrw (zothr d q l n) = zup (zrw d) l ((zrw d l).1, (zrw d l).2.1, (zrw d l).2.2.1, (zrw d l).2.2.2.1, (zrw d l).2.2.2.2.1, (zrw d l).2.2.2.2.2.1, n + 1) := rfl
theorem za_zrw_tgt {d : zDat} {q : Nat} : zrw (ztgt d q) = zrw d := rfl
theorem za_zrw_go {d : zDat} {q : Nat} {e : Nat × Nat × Nat} : zrw (zgo d q e) = zrw d := rfl
theorem za_zrw_addn {d : zDat} {t : Nat} : zrw (zaddn d t) = zrw d := rfl
theorem za_zrw_add0 {d : zDat}  : zrw (zadd0 d) = zrw d := rfl
theorem za_zrw_addp {d : zDat} {x : Int} : zrw (zaddp d x) = zrw d := rfl
theorem za_zrw_addl {d : zDat} {k : Int} {t n b : Nat} : zrw (zaddl d k t n b) = zup (zrw d) (zlc d) (zac d, zic d, 0, 0, b, 0, 0) := rfl
theorem za_zrw_addc {d : zDat} {l : List (Nat × Nat × Nat)} : zrw (zaddc d l) = zrw d := rfl
theorem za_zrw_addf {d : zDat} {i : Nat} : zrw (zaddf d i) = zrw d := rfl
theorem za_zrw_addb {d : zDat} {t : Nat} : zrw (zaddb d t) = zrw d := rfl
theorem za_zfa_emi {d : zDat} {s i m : Nat} : zfa (zemi d s i m) = zfa d := rfl
theorem za_zfa_ende {d : zDat} {l : Nat} {e : Nat × Nat × Nat} : zfa (zende d l e) = zfa d := rfl
theorem za_zfa_next {d : zDat} {l n : Nat} : zfa (znext d l n) = zfa d := rfl
theorem za_zfa_body {d : zDat} {l n : Nat} : zfa (zbody d l n) = zfa d := rfl
theorem za_zfa_othr {d : zDat} {q l n : Nat} : zfa (zothr d q l n) = zfa d := rfl
theorem za_zfa_tgt {d : zDat} {q : Nat} : zfa (ztgt d q) = zfa d := rfl
theorem za_zfa_go {d : zDat} {q : Nat} {e : Nat × Nat × Nat} : zfa (zgo d q e) = zfa d := rfl
theorem za_zfa_addn {d : zDat} {t : Nat} : zfa (zaddn d t) = zfa d := rfl
theorem za_zfa_add0 {d : zDat}  : zfa (zadd0 d) = zfa d := rfl
theorem za_zfa_addp {d : zDat} {x : Int} : zfa (zaddp d x) = zfa d := rfl
theorem za_zfa_addl {d : zDat} {k : Int} {t n b : Nat} : zfa (zaddl d k t n b) = zfa d := rfl
theorem za_zfa_addc {d : zDat} {l : List (Nat × Nat × Nat)} : zfa (zaddc d l) = zfa d := rfl
theorem za_zfa_addf {d : zDat} {i : Nat} : zfa (zaddf d i) = zfa d := rfl
theorem za_zfa_addb {d : zDat} {t : Nat} : zfa (zaddb d t) = zup (zfa d) (zfc d) (zac d) := rfl
