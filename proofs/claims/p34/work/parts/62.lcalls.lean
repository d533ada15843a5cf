/-! ===== the law's calls ===== -/
theorem cl_count {D : va_G} {cI cR : ClassId} {ad : Nat → Nat} {v : EN} {σ : ST} (l : Launch) (x : Int32) (hok : okS σ) : ∀ (ρ : Nat → ST) (sp kp : Nat) (τ : ST), ρ 0 = σ → Met l yX3_count (Cond.code yX3_count cX3_count 2 (some .int) :: W0) rm_X3_count (va_Pc [.ref (ad 300), .int x] (brX D cI cR ad v ρ sp kp τ)) (vp_Si (fun r => r = f_X2_numberOf σ x)) 0 0 (fun _ => False) := by
  intro ρ sp kp τ h
  subst h
  exact c_X3_count l D cI cR ad v ρ sp kp τ x hok
theorem cl_title {D : va_G} {cI cR : ClassId} {ad : Nat → Nat} {v : EN} {σ : ST} (l : Launch) (x : Int32) (y : Int32) (hok : okS σ) : ∀ (ρ : Nat → ST) (sp kp : Nat) (τ : ST), ρ 0 = σ → Met l yX3_title (Cond.code yX3_title cX3_title 3 (some .int) :: W0) rm_X3_title (va_Pc [.ref (ad 300), .int x, .int y] (brX D cI cR ad v ρ sp kp τ)) (vp_Si (fun r => r = f_X2_titleProperty σ x y)) 0 0 (fun _ => False) := by
  intro ρ sp kp τ h
  subst h
  exact c_X3_title l D cI cR ad v ρ sp kp τ x y hok
theorem cl_course {D : va_G} {cI cR : ClassId} {ad : Nat → Nat} {v : EN} {σ : ST} (l : Launch) (x : Int32) (y : Int32) (hok : okS σ) : ∀ (ρ : Nat → ST) (sp kp : Nat) (τ : ST), ρ 0 = σ → Met l yX3_course (Cond.code yX3_course cX3_course 3 (some .int) :: W0) rm_X3_course (va_Pc [.ref (ad 300), .int x, .int y] (brX D cI cR ad v ρ sp kp τ)) (vp_Si (fun r => r = f_X2_courseProperty σ x y)) 0 0 (fun _ => False) := by
  intro ρ sp kp τ h
  subst h
  exact c_X3_course l D cI cR ad v ρ sp kp τ x y hok
theorem cl_copy {D : va_G} {cI cR : ClassId} {ad : Nat → Nat} {v : EN} {σ : ST} (l : Launch) (x : Int32) (y : Int32) (hok : okS σ) : ∀ (ρ : Nat → ST) (sp kp : Nat) (τ : ST), ρ 0 = σ → Met l yX3_copy (Cond.code yX3_copy cX3_copy 3 (some .int) :: W0) rm_X3_copy (va_Pc [.ref (ad 300), .int x, .int y] (brX D cI cR ad v ρ sp kp τ)) (vp_Si (fun r => r = f_X2_copyProperty σ x y)) 0 0 (fun _ => False) := by
  intro ρ sp kp τ h
  subst h
  exact c_X3_copy l D cI cR ad v ρ sp kp τ x y hok
theorem cl_book {D : va_G} {cI cR : ClassId} {ad : Nat → Nat} {v : EN} {σ : ST} (l : Launch) (x : Int32) : ∀ (ρ : Nat → ST) (sp kp : Nat) (τ : ST), ρ 0 = σ → Met l yX3_book (Cond.code yX3_book cX3_book 2 (some .int) :: W0) rm_X3_book (va_Pc [.ref (ad 300), .int x] (brX D cI cR ad v ρ sp kp τ)) (vp_Si (fun r => r = f_X2_sumOf σ x)) 0 0 (fun _ => False) := by
  intro ρ sp kp τ h
  subst h
  exact c_X3_book l D cI cR ad v ρ sp kp τ x
theorem cl_offer {D : va_G} {cI cR : ClassId} {ad : Nat → Nat} {v : EN} {σ : ST} (l : Launch) (x : Int32) (y : Int32) (z : Int32) (hok : okS σ) : ∀ (ρ : Nat → ST) (sp kp : Nat) (τ : ST), ρ 0 = σ → Met l yX3_offer (Cond.code yX3_offer cX3_offer 4 (some .int) :: W0) rm_X3_offer (va_Pc [.ref (ad 300), .int x, .int y, .int z] (brX D cI cR ad v ρ sp kp τ)) (vp_Si (fun r => r = f_X2_offerFor σ x y z)) 0 0 (fun _ => False) := by
  intro ρ sp kp τ h
  subst h
  exact c_X3_offer l D cI cR ad v ρ sp kp τ x y z hok
theorem cl_next {D : va_G} {cI cR : ClassId} {ad : Nat → Nat} {v : EN} {σ : ST} (l : Launch) (x : Int32) (hok : okS σ) : ∀ (ρ : Nat → ST) (sp kp : Nat) (τ : ST), ρ 0 = σ → Met l yX3_next (Cond.code yX3_next cX3_next 2 (some .int) :: W0) rm_X3_next (va_Pc [.ref (ad 300), .int x] (brX D cI cR ad v ρ sp kp τ)) (vp_Si (fun r => r = f_X2_nextCopy σ x)) 0 0 (fun _ => False) := by
  intro ρ sp kp τ h
  subst h
  exact c_X3_next l D cI cR ad v ρ sp kp τ x hok
theorem cl_charge {D : va_G} {cI cR : ClassId} {ad : Nat → Nat} {v : EN} {σ : ST} (l : Launch) (x : Int32) (y : Int32) (z : Int32) (hok : okS σ) : ∀ (ρ : Nat → ST) (sp kp : Nat) (τ : ST), ρ 0 = σ → Met l yX3_charge (Cond.code yX3_charge cX3_charge 4 (some .int) :: W0) rm_X3_charge (va_Pc [.ref (ad 300), .int x, .int y, .int z] (brX D cI cR ad v ρ sp kp τ)) (vp_Si (fun r => r = f_X2_chargeFor σ x y z)) 0 0 (fun _ => False) := by
  intro ρ sp kp τ h
  subst h
  exact c_X3_charge l D cI cR ad v ρ sp kp τ x y z hok
theorem cl_customer {D : va_G} {cI cR : ClassId} {ad : Nat → Nat} {v : EN} {σ : ST} (l : Launch) (x : Int32) (y : Int32) (hok : okS σ) : ∀ (ρ : Nat → ST) (sp kp : Nat) (τ : ST), ρ 0 = σ → Met l yX3_customer (Cond.code yX3_customer cX3_customer 3 (some .int) :: W0) rm_X3_customer (va_Pc [.ref (ad 300), .int x, .int y] (brX D cI cR ad v ρ sp kp τ)) (vp_Si (fun r => r = f_X2_customerNumber σ x y)) 0 0 (fun _ => False) := by
  intro ρ sp kp τ h
  subst h
  exact c_X3_customer l D cI cR ad v ρ sp kp τ x y hok
theorem cl_lostIn {D : va_G} {cI cR : ClassId} {ad : Nat → Nat} {v : EN} {σ : ST} (l : Launch) (x : Int32) (hok : okS σ) : ∀ (ρ : Nat → ST) (sp kp : Nat) (τ : ST), ρ 0 = σ → Met l yX3_lostIn (Cond.code yX3_lostIn cX3_lostIn 2 (some .int) :: W0) rm_X3_lostIn (va_Pc [.ref (ad 300), .int x] (brX D cI cR ad v ρ sp kp τ)) (vp_Si (fun r => r = f_X2_lostAfter σ x)) 0 0 (fun _ => False) := by
  intro ρ sp kp τ h
  subst h
  exact c_X3_lostIn l D cI cR ad v ρ sp kp τ x hok
theorem cl_agingOf {D : va_G} {cI cR : ClassId} {ad : Nat → Nat} {v : EN} {σ : ST} (l : Launch) (x : Int32) (hok : okS σ) : ∀ (ρ : Nat → ST) (sp kp : Nat) (τ : ST), ρ 0 = σ → Met l yX3_agingOf (Cond.code yX3_agingOf cX3_agingOf 2 (some .int) :: W0) rm_X3_agingOf (va_Pc [.ref (ad 300), .int x] (brX D cI cR ad v ρ sp kp τ)) (vp_Si (fun r => r = f_X2_agingBy σ x)) 0 0 (fun _ => False) := by
  intro ρ sp kp τ h
  subst h
  exact c_X3_agingOf l D cI cR ad v ρ sp kp τ x hok
theorem cl_served {D : va_G} {cI cR : ClassId} {ad : Nat → Nat} {v : EN} {σ : ST} (l : Launch) (hok : okS σ) : ∀ (ρ : Nat → ST) (sp kp : Nat) (τ : ST), ρ 0 = σ → Met l yX3_served (Cond.code yX3_served cX3_served 1 (some .int) :: W0) rm_X3_served (va_Pc [.ref (ad 300)] (brX D cI cR ad v ρ sp kp τ)) (vp_Si (fun r => r = f_X2_servedStudents σ)) 0 0 (fun _ => False) := by
  intro ρ sp kp τ h
  subst h
  exact c_X3_served l D cI cR ad v ρ sp kp τ hok
theorem cm_addTitle {D : va_G} {cI cR : ClassId} {ad : Nat → Nat} {v : EN} {σ : ST} (l : Launch) (x : Int32) (y : Int32) (hok : okS σ) : ∀ (ρ : Nat → ST) (sp kp : Nat) (τ : ST), sp < 6 → kp ≤ 5 → ρ 0 = σ → Met l yX3_addTitle (Cond.code yX3_addTitle cX3_addTitle 3 (some .int) :: W0) rm_X3_addTitle (va_Pc [.ref (ad 300), .int x, .int y] (brX D cI cR ad v ρ sp kp τ)) (brQ D cI cR ad (m_X2_putTitle σ x y).1 (rcρ ρ sp (m_X2_putTitle σ x y).2) (st_sp (m_X2_putTitle σ x y).1 sp) (st_kp (m_X2_putTitle σ x y).1 kp) τ) 0 0 (brA ad) := by
  intro ρ sp kp τ hsp hkp h
  subst h
  exact c_X3_addTitle l D cI cR ad v ρ sp kp τ x y hsp hkp hok
theorem cm_setPrice {D : va_G} {cI cR : ClassId} {ad : Nat → Nat} {v : EN} {σ : ST} (l : Launch) (x : Int32) (y : Int32) (hok : okS σ) : ∀ (ρ : Nat → ST) (sp kp : Nat) (τ : ST), sp < 6 → kp ≤ 5 → ρ 0 = σ → Met l yX3_setPrice (Cond.code yX3_setPrice cX3_setPrice 3 (some .int) :: W0) rm_X3_setPrice (va_Pc [.ref (ad 300), .int x, .int y] (brX D cI cR ad v ρ sp kp τ)) (brQ D cI cR ad (m_X2_changePrice σ x y).1 (rcρ ρ sp (m_X2_changePrice σ x y).2) (st_sp (m_X2_changePrice σ x y).1 sp) (st_kp (m_X2_changePrice σ x y).1 kp) τ) 0 0 (brA ad) := by
  intro ρ sp kp τ hsp hkp h
  subst h
  exact c_X3_setPrice l D cI cR ad v ρ sp kp τ x y hsp hkp hok
theorem cm_newEdition {D : va_G} {cI cR : ClassId} {ad : Nat → Nat} {v : EN} {σ : ST} (l : Launch) (x : Int32) (hok : okS σ) : ∀ (ρ : Nat → ST) (sp kp : Nat) (τ : ST), sp < 6 → kp ≤ 5 → ρ 0 = σ → Met l yX3_newEdition (Cond.code yX3_newEdition cX3_newEdition 2 (some .int) :: W0) rm_X3_newEdition (va_Pc [.ref (ad 300), .int x] (brX D cI cR ad v ρ sp kp τ)) (brQ D cI cR ad (m_X2_advanceEdition σ x).1 (rcρ ρ sp (m_X2_advanceEdition σ x).2) (st_sp (m_X2_advanceEdition σ x).1 sp) (st_kp (m_X2_advanceEdition σ x).1 kp) τ) 0 0 (brA ad) := by
  intro ρ sp kp τ hsp hkp h
  subst h
  exact c_X3_newEdition l D cI cR ad v ρ sp kp τ x hsp hkp hok
theorem cm_addCourse {D : va_G} {cI cR : ClassId} {ad : Nat → Nat} {v : EN} {σ : ST} (l : Launch) (x : Int32) (y : Int32) (z : Int32) (hok : okS σ) : ∀ (ρ : Nat → ST) (sp kp : Nat) (τ : ST), sp < 6 → kp ≤ 5 → ρ 0 = σ → Met l yX3_addCourse (Cond.code yX3_addCourse cX3_addCourse 4 (some .int) :: W0) rm_X3_addCourse (va_Pc [.ref (ad 300), .int x, .int y, .int z] (brX D cI cR ad v ρ sp kp τ)) (brQ D cI cR ad (m_X2_putCourse σ x y z).1 (rcρ ρ sp (m_X2_putCourse σ x y z).2) (st_sp (m_X2_putCourse σ x y z).1 sp) (st_kp (m_X2_putCourse σ x y z).1 kp) τ) 0 0 (brA ad) := by
  intro ρ sp kp τ hsp hkp h
  subst h
  exact c_X3_addCourse l D cI cR ad v ρ sp kp τ x y z hsp hkp hok
theorem cm_setCourse {D : va_G} {cI cR : ClassId} {ad : Nat → Nat} {v : EN} {σ : ST} (l : Launch) (x : Int32) (y : Int32) (z : Int32) (hok : okS σ) : ∀ (ρ : Nat → ST) (sp kp : Nat) (τ : ST), sp < 6 → kp ≤ 5 → ρ 0 = σ → Met l yX3_setCourse (Cond.code yX3_setCourse cX3_setCourse 4 (some .int) :: W0) rm_X3_setCourse (va_Pc [.ref (ad 300), .int x, .int y, .int z] (brX D cI cR ad v ρ sp kp τ)) (brQ D cI cR ad (m_X2_changeCourse σ x y z).1 (rcρ ρ sp (m_X2_changeCourse σ x y z).2) (st_sp (m_X2_changeCourse σ x y z).1 sp) (st_kp (m_X2_changeCourse σ x y z).1 kp) τ) 0 0 (brA ad) := by
  intro ρ sp kp τ hsp hkp h
  subst h
  exact c_X3_setCourse l D cI cR ad v ρ sp kp τ x y z hsp hkp hok
theorem cm_set {D : va_G} {cI cR : ClassId} {ad : Nat → Nat} {v : EN} {σ : ST} (l : Launch) (x : Int32) (y : Int32) (hok : okS σ) : ∀ (ρ : Nat → ST) (sp kp : Nat) (τ : ST), sp < 6 → kp ≤ 5 → ρ 0 = σ → Met l yX3_set (Cond.code yX3_set cX3_set 3 (some .int) :: W0) rm_X3_set (va_Pc [.ref (ad 300), .int x, .int y] (brX D cI cR ad v ρ sp kp τ)) (brQ D cI cR ad (m_X2_changeSetting σ x y).1 (rcρ ρ sp (m_X2_changeSetting σ x y).2) (st_sp (m_X2_changeSetting σ x y).1 sp) (st_kp (m_X2_changeSetting σ x y).1 kp) τ) 0 0 (brA ad) := by
  intro ρ sp kp τ hsp hkp h
  subst h
  exact c_X3_set l D cI cR ad v ρ sp kp τ x y hsp hkp hok
theorem cm_buy {D : va_G} {cI cR : ClassId} {ad : Nat → Nat} {v : EN} {σ : ST} (l : Launch) (x : Int32) (y : Int32) (hok : okS σ) : ∀ (ρ : Nat → ST) (sp kp : Nat) (τ : ST), sp < 6 → kp ≤ 5 → ρ 0 = σ → Met l yX3_buy (Cond.code yX3_buy cX3_buy 3 (some .int) :: W0) rm_X3_buy (va_Pc [.ref (ad 300), .int x, .int y] (brX D cI cR ad v ρ sp kp τ)) (brQ D cI cR ad (m_X2_buyNew σ x y).1 (rcρ ρ sp (m_X2_buyNew σ x y).2) (st_sp (m_X2_buyNew σ x y).1 sp) (st_kp (m_X2_buyNew σ x y).1 kp) τ) 0 0 (brA ad) := by
  intro ρ sp kp τ hsp hkp h
  subst h
  exact c_X3_buy l D cI cR ad v ρ sp kp τ x y hsp hkp hok
theorem cm_buyBack {D : va_G} {cI cR : ClassId} {ad : Nat → Nat} {v : EN} {σ : ST} (l : Launch) (x : Int32) (y : Int32) (z : Int32) (hok : okS σ) : ∀ (ρ : Nat → ST) (sp kp : Nat) (τ : ST), sp < 6 → kp ≤ 5 → ρ 0 = σ → Met l yX3_buyBack (Cond.code yX3_buyBack cX3_buyBack 4 (some .int) :: W0) rm_X3_buyBack (va_Pc [.ref (ad 300), .int x, .int y, .int z] (brX D cI cR ad v ρ sp kp τ)) (brQ D cI cR ad (m_X2_buyUsed σ x y z).1 (rcρ ρ sp (m_X2_buyUsed σ x y z).2) (st_sp (m_X2_buyUsed σ x y z).1 sp) (st_kp (m_X2_buyUsed σ x y z).1 kp) τ) 0 0 (brA ad) := by
  intro ρ sp kp τ hsp hkp h
  subst h
  exact c_X3_buyBack l D cI cR ad v ρ sp kp τ x y z hsp hkp hok
theorem cm_sell {D : va_G} {cI cR : ClassId} {ad : Nat → Nat} {v : EN} {σ : ST} (l : Launch) (x : Int32) (hok : okS σ) : ∀ (ρ : Nat → ST) (sp kp : Nat) (τ : ST), sp < 6 → kp ≤ 5 → ρ 0 = σ → Met l yX3_sell (Cond.code yX3_sell cX3_sell 2 (some .int) :: W0) rm_X3_sell (va_Pc [.ref (ad 300), .int x] (brX D cI cR ad v ρ sp kp τ)) (brQ D cI cR ad (m_X2_sellCopy σ x).1 (rcρ ρ sp (m_X2_sellCopy σ x).2) (st_sp (m_X2_sellCopy σ x).1 sp) (st_kp (m_X2_sellCopy σ x).1 kp) τ) 0 0 (brA ad) := by
  intro ρ sp kp τ hsp hkp h
  subst h
  exact c_X3_sell l D cI cR ad v ρ sp kp τ x hsp hkp hok
theorem cm_rent {D : va_G} {cI cR : ClassId} {ad : Nat → Nat} {v : EN} {σ : ST} (l : Launch) (x : Int32) (y : Int32) (hok : okS σ) : ∀ (ρ : Nat → ST) (sp kp : Nat) (τ : ST), sp < 6 → kp ≤ 5 → ρ 0 = σ → Met l yX3_rent (Cond.code yX3_rent cX3_rent 3 (some .int) :: W0) rm_X3_rent (va_Pc [.ref (ad 300), .int x, .int y] (brX D cI cR ad v ρ sp kp τ)) (brQ D cI cR ad (m_X2_rentCopy σ x y).1 (rcρ ρ sp (m_X2_rentCopy σ x y).2) (st_sp (m_X2_rentCopy σ x y).1 sp) (st_kp (m_X2_rentCopy σ x y).1 kp) τ) 0 0 (brA ad) := by
  intro ρ sp kp τ hsp hkp h
  subst h
  exact c_X3_rent l D cI cR ad v ρ sp kp τ x y hsp hkp hok
theorem cm_giveBack {D : va_G} {cI cR : ClassId} {ad : Nat → Nat} {v : EN} {σ : ST} (l : Launch) (x : Int32) (y : Int32) (hok : okS σ) : ∀ (ρ : Nat → ST) (sp kp : Nat) (τ : ST), sp < 6 → kp ≤ 5 → ρ 0 = σ → Met l yX3_giveBack (Cond.code yX3_giveBack cX3_giveBack 3 (some .int) :: W0) rm_X3_giveBack (va_Pc [.ref (ad 300), .int x, .int y] (brX D cI cR ad v ρ sp kp τ)) (brQ D cI cR ad (m_X2_takeBack σ x y).1 (rcρ ρ sp (m_X2_takeBack σ x y).2) (st_sp (m_X2_takeBack σ x y).1 sp) (st_kp (m_X2_takeBack σ x y).1 kp) τ) 0 0 (brA ad) := by
  intro ρ sp kp τ hsp hkp h
  subst h
  exact c_X3_giveBack l D cI cR ad v ρ sp kp τ x y hsp hkp hok
theorem cm_pass {D : va_G} {cI cR : ClassId} {ad : Nat → Nat} {v : EN} {σ : ST} (l : Launch) (x : Int32) (hok : okS σ) : ∀ (ρ : Nat → ST) (sp kp : Nat) (τ : ST), sp < 6 → kp ≤ 5 → ρ 0 = σ → Met l yX3_pass (Cond.code yX3_pass cX3_pass 2 (some .int) :: W0) rm_X3_pass (va_Pc [.ref (ad 300), .int x] (brX D cI cR ad v ρ sp kp τ)) (brQ D cI cR ad (m_X2_passDays σ x).1 (rcρ ρ sp (m_X2_passDays σ x).2) (st_sp (m_X2_passDays σ x).1 sp) (st_kp (m_X2_passDays σ x).1 kp) τ) 0 0 (brA ad) := by
  intro ρ sp kp τ hsp hkp h
  subst h
  exact c_X3_pass l D cI cR ad v ρ sp kp τ x hsp hkp hok
theorem cm_shelf {D : va_G} {cI cR : ClassId} {ad : Nat → Nat} {v : EN} {σ : ST} (l : Launch) (x : Int32) (y : Int32) (hok : okS σ) : ∀ (ρ : Nat → ST) (sp kp : Nat) (τ : ST), sp < 6 → kp ≤ 5 → ρ 0 = σ → Met l yX3_shelf (Cond.code yX3_shelf cX3_shelf 3 (some .int) :: W0) rm_X3_shelf (va_Pc [.ref (ad 300), .int x, .int y] (brX D cI cR ad v ρ sp kp τ)) (brQ D cI cR ad (m_X2_countShelf σ x y).1 (rcρ ρ sp (m_X2_countShelf σ x y).2) (st_sp (m_X2_countShelf σ x y).1 sp) (st_kp (m_X2_countShelf σ x y).1 kp) τ) 0 0 (brA ad) := by
  intro ρ sp kp τ hsp hkp h
  subst h
  exact c_X3_shelf l D cI cR ad v ρ sp kp τ x y hsp hkp hok
theorem cl_digest {D : va_G} {cI cR : ClassId} {ad : Nat → Nat} {σ : ST} (l : Launch) (hok : okS σ) : ∀ (ρ : Nat → ST) (sp kp : Nat) (τ : ST), ρ 0 = σ → Met l yX3_digest (Cond.code yX3_digest cX3_digest 5 (some .long) :: W0) rm_X3_digest (va_Pc [.ref (ad 300)] (fun U => brP D cI cR ad ρ sp kp τ U ∧ nE U)) (vpL (sD_6 σ)) 0 0 (fun _ => False) := by
  intro ρ sp kp τ h
  subst h
  exact c_X3_digest l D cI cR ad ρ sp kp τ hok
theorem ok_addTitle {σ : ST} (h : okS σ) (x : Int32) (y : Int32) : okS (m_X2_putTitle σ x y).2 := putTitle_ok h x y
theorem ok_setPrice {σ : ST} (h : okS σ) (x : Int32) (y : Int32) : okS (m_X2_changePrice σ x y).2 := changePrice_ok h x y
theorem ok_newEdition {σ : ST} (h : okS σ) (x : Int32) : okS (m_X2_advanceEdition σ x).2 := advanceEdition_ok h x
theorem ok_addCourse {σ : ST} (h : okS σ) (x : Int32) (y : Int32) (z : Int32) : okS (m_X2_putCourse σ x y z).2 := putCourse_ok h x y z
theorem ok_setCourse {σ : ST} (h : okS σ) (x : Int32) (y : Int32) (z : Int32) : okS (m_X2_changeCourse σ x y z).2 := changeCourse_ok h x y z
theorem ok_set {σ : ST} (h : okS σ) (x : Int32) (y : Int32) : okS (m_X2_changeSetting σ x y).2 := changeSetting_ok h x y
theorem ok_buy {σ : ST} (h : okS σ) (x : Int32) (y : Int32) : okS (m_X2_buyNew σ x y).2 := buyNew_ok h x y
theorem ok_buyBack {σ : ST} (h : okS σ) (x y z : Int32) : okS (m_X2_buyUsed σ x y z).2 := buyUsed_ok h x y z (fun h0 => by
  by_cases c : f_X2_hasTitle σ x = 0
  · unfold f_X2_offerFor at h0
    rw [if_pos c] at h0
    exact absurd h0 (by decide)
  · exact hasTitle_ok h c)
theorem ok_sell {σ : ST} (h : okS σ) (x : Int32) : okS (m_X2_sellCopy σ x).2 := sellCopy_ok h x
theorem ok_rent {σ : ST} (h : okS σ) (x : Int32) (y : Int32) : okS (m_X2_rentCopy σ x y).2 := rentCopy_ok h x y
theorem ok_giveBack {σ : ST} (h : okS σ) (x : Int32) (y : Int32) : okS (m_X2_takeBack σ x y).2 := takeBack_ok h x y
theorem ok_pass {σ : ST} (h : okS σ) (x : Int32) : okS (m_X2_passDays σ x).2 := passDays_ok h x
theorem ok_shelf {σ : ST} (h : okS σ) (x : Int32) (y : Int32) : okS (m_X2_countShelf σ x y).2 := countShelf_ok h x y
theorem lg_self (x : Int64) : lg_cmp x x = 0 := by unfold lg_cmp; rw [if_neg (fun h => absurd h (Int64.lt_irrefl)), if_pos rfl]
theorem b10_z {q : Prop} [Decidable q] (h : (if q then (1 : Int32) else 0) = 0) : ¬ q := fun z => by rw [if_pos z] at h; exact absurd h (by decide)
theorem b10_n {q : Prop} [Decidable q] (h : ¬ (if q then (1 : Int32) else 0) = 0) : q := Decidable.byContradiction (fun z => h (if_neg z))
theorem b01_z {q : Prop} [Decidable q] (h : (if q then (0 : Int32) else 1) = 0) : q := Decidable.byContradiction (fun z => by rw [if_neg z] at h; exact absurd h (by decide))
theorem b01_n {q : Prop} [Decidable q] (h : ¬ (if q then (0 : Int32) else 1) = 0) : ¬ q := fun z => h (if_pos z)
theorem num_0 {σ : ST} (h : okS σ) : f_X2_numberOf σ 0 = nI (nT σ) := okS_1 h
theorem num_1 {σ : ST} (h : okS σ) : f_X2_numberOf σ 1 = nI (nN σ) := okS_3 h
theorem num_2 {σ : ST} (h : okS σ) : f_X2_numberOf σ 2 = nI (nC σ) := okS_2 h
theorem cnt1_ne {σ : ST} (h : okS σ) {k : Int32} (hk : k = 0 ∨ k = 1 ∨ k = 2) : ¬ f_X2_numberOf σ k + 1 = 0 := by
  have b := okS_b h
  rcases hk with rfl | rfl | rfl
  · rw [num_0 h, nI_1]; exact fun q => absurd ((nI_eq (b := 0) (by omega) (by decide)).mp q) (by omega)
  · rw [num_1 h, nI_1]; exact fun q => absurd ((nI_eq (b := 0) (by omega) (by decide)).mp q) (by omega)
  · rw [num_2 h, nI_1]; exact fun q => absurd ((nI_eq (b := 0) (by omega) (by decide)).mp q) (by omega)
def f_L_low (x y : Int32) : Int32 := (x &&& 2147483647) - (x &&& 2147483647) / y * y
abbrev rm_L_low : Room := { frames := 0, cells := 0, slots := 0, locals := 0 }
set_option maxRecDepth 100000 in
theorem c_L_low (l : Launch) (x y : Int32) (hy : ¬ y = 0) :
    Met l yL_low (Cond.code yL_low cL_low 2 (some .int) :: W0) rm_L_low (va_Pc [.int x, .int y] (fun _ => True)) (vp_Si (fun r => r = f_L_low x y)) 0 0 (fun _ => False) := by
  refine st_gen (cc := cL_low) (maxL := 2) (ret := some .int) (own := RL) (by decide) rfl (Nat.le_of_ble_eq_true rfl) ?_
  intro p e s m below meth c ls C hPre hl
  obtain ⟨hx, hb, hr, hml, hown, hts, hlk⟩ := C
  have hl : lv_has ls 2 [(0, .int x), (1, .int y)] := hl
  refine lv_iload_n hx hb dL_low_0 rfl (lv_at hl 0 rfl) ?_
  refine lv_ldc (v := 2147483647) hx hb hown (hts _ (List.mem_cons_of_mem _ mk_L_7)) dL_low_1 ?_
  refine lv_iand hx hb dL_low_3 ?_
  refine lv_iload_n hx hb dL_low_4 rfl (lv_at hl 1 rfl) ?_
  refine lv_irem hx hb dL_low_5 hy ?_
  exact fin_i hx hb hr hlk rfl dL_low_6
theorem kS_L_low {R : Room} {s : State} {args : Array Value} {own : String} {idx : Nat} {c0 : Cond} (hts : ∀ w ∈ c0 :: W0, w.before args s = true) (hl : Cond.methodLink own idx yL_low ∈ W0) (hR : rm_L_low.frames + 1 ≤ R.frames ∧ 8 + (2 + 11) + rm_L_low.locals ≤ R.locals) : CallB R s args own idx yL_low cL_low 2 (some .int) (Cond.code yL_low cL_low 2 (some .int) :: W0) rm_L_low 0 0 2 ∧ (Cond.static yL_low).before args s = true := va_cwS 2 hts (gdS hl mst_yL_low mini_L mc_yL_low) rfl rfl rfl (by decide +kernel) hR
def lP1 : Array Value → State → Outcome → State → Prop := fun _ st oc t => oc = .returned (some (.int 1)) ∧ va_F (fun _ => False) st t
section LCR
variable {p : Program} {l : Launch} {e : Env} {R : Room} {s : State} {m : MethodId} {args : Array Value} {below : List Frame} {meth : Method} {c : Code} {H : Heap} {locs : List Loc} {cells slots : Nat} {Q : State → Prop} {cc : ByteArray} {nL : Nat} {own : String} {c0 : Cond} {pc : Nat} {ls : Array Slot} {rest st0 : List Value} {D : va_G} {cI cR : ClassId} {ad : Nat → Nat} {v : EN} {σ σ0 : ST} {A : Nat → Prop} {g : JFrame}
theorem bj (pc2 : Nat) {v : Int32} (J : ∀ x, x = v → W p l e R s m args below meth c H locs cells slots Q (F0 m pc2 ls (.int x :: rest))) (k : (∀ x, x = v → W p l e R s m args below meth c H locs cells slots Q (F0 m pc2 ls (.int x :: rest))) → W p l e R s m args below meth c H locs cells slots Q (F0 m pc ls st0)) : W p l e R s m args below meth c H locs cells slots Q (F0 m pc ls st0) := k J
theorem bj0 (pc2 : Nat) (J : W p l e R s m args below meth c H locs cells slots Q (F0 m pc2 ls rest)) (k : W p l e R s m args below meth c H locs cells slots Q (F0 m pc2 ls rest) → W p l e R s m args below meth c H locs cells slots Q (F0 m pc ls st0)) : W p l e R s m args below meth c H locs cells slots Q (F0 m pc ls st0) := k J
theorem ar_ld (hx : p.tables.exec = Jvm.exec) (hb : c.code = cc) (hK : brK D cI cR s) {q : Nat} {f : Nat → Int32} (hP : va_P D vwCl [(q, .inl (cI, 13, .inl f))] H) {i : Int32} (j : Nat) (hi : i = nI j) (hj : j < 13) {v : Int32} (hv : f j = v) (d : decode cc pc = .ok (.iaload, 1)) (kk : W p l e R s m args below meth c H locs cells slots Q (F0 m (pc + 1) ls (.int v :: rest))) : W p l e R s m args below meth c H locs cells slots Q (F0 m pc ls (.int i :: .ref q :: rest)) := by
  subst hi; subst hv
  exact va_iald (n := 13) (f := f) hx hb (brK_1 hK) hP 0 0 rfl rfl (vp_in_nI hj (by decide)) d (by rw [nI_clamp (Nat.lt_trans hj (by decide))]; exact kk)
/-- a call of a check that leaves all as it was, but for one new row -/
theorem lz_S {y : MethodName} {bytes : ByteArray} {mL index : Nat} {rt : Option FieldType} {ws : List Cond} {rm : Room} (hx : p.tables.exec = Jvm.exec) (hb : c.code = cc) (hml : c.maxLocals = nL) (hown : s.vm.findClass own = some m.cls) (hts : ∀ w ∈ c0 :: W0, w.before args s = true) (hK : brK D cI cR s) (hI : brI ad) (hB : lB D cI cR ad σ H) (hE : lE v ad s H) (hS : va_S A s.heap H locs)
    (hM : Met l y ws rm (va_Pc [.ref (ad 300)] (lX D cI cR ad v σ)) lP1 1 13 (fun _ => False)) (cw : CallB R s args own index y bytes mL rt ws rm 1 13 1 ∧ (Cond.static y).before args s = true)
    (hsize : ls.size = nL) (hst : st0 = .ref (ad 300) :: rest) (hW : (rest.map fun v => v.category).sum ≤ 8) (d : decode cc pc = .ok (.invokestatic index, 3)) (hc : cells + 1 ≤ R.cells) (hs : slots + 13 ≤ R.slots)
    (kk : ∀ (H1 : Heap) (locs1 : List Loc), H.size ≤ H1.size → (∀ q : Nat, q < H.size → H1[q]? = H[q]?) → va_S A s.heap H1 locs1 → W p l e R s m args below meth c H1 locs1 (cells + 1) (slots + 13) Q (F0 m (pc + 3) ls (.int 1 :: rest))) : W p l e R s m args below meth c H locs cells slots Q (F0 m pc ls st0) := by
  refine lb_run (A := A) (B := fun H1 => H.size ≤ H1.size ∧ ∀ q : Nat, q < H.size → H1[q]? = H[q]?) (va_runS (As := [.ref (ad 300)]) (rest := rest) ⟨hx, hb, hml, hown, hts⟩ hM cw ⟨lX_blind, fun U hU hW => ⟨rfl, ⟨by rw [hU]; exact hB, va_K.moved hW.alike hK, hI⟩, hE U hU hW⟩⟩ rfl rfl hsize hst (lv_room hW) d ⟨hc, hs⟩) (fun q h => h.elim) hS (fun v1 st₀ t h0 hq => ?_) (fun H1 locs1 hB hS => kk H1 locs1 hB.1 hB.2 hS)
  obtain ⟨hv, hF⟩ := hq
  cases hv
  exact ⟨rfl, hF.mono (fun q h => h.elim), by rw [← h0]; exact hF.1, fun q hq => by rw [← h0]; exact hF.2 q (by rw [h0]; exact hq) (fun z => z)⟩
end LCR
def stt (σ : ST) (k : Nat) : Nat := tn (σ 13 k)

