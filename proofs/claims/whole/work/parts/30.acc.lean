/-! the states' accessors over their updates; ints that are small naturals -/
section ZB
theorem cs_sz_iS (C : cS) (k : Nat) (v : Int32) : c_sz (c_iS C k v) = c_sz C := rfl
theorem cs_sz_aS (C : cS) (k : Nat) (f : Nat → Int32) : c_sz (c_aS C k f) = c_sz C := rfl
theorem cs_sz_aU (C : cS) (k : Nat) (x y : Int32) : c_sz (c_aU C k x y) = c_sz C := rfl
theorem cs_sz_lS (C : cS) (k : Nat) (f : Nat → Int64) : c_sz (c_lS C k f) = c_sz C := rfl
theorem cs_sz_lU (C : cS) (k : Nat) (x : Int32) (y : Int64) : c_sz (c_lU C k x y) = c_sz C := rfl
theorem cs_sz_pnS (C : cS) (b : Bool) (v : Int32) : c_sz (c_pnS C b v) = c_sz C := rfl
theorem cs_sz_paU (C : cS) (k : Nat) (b : Bool) (x y : Int32) : c_sz (c_paU C k b x y) = c_sz C := rfl
theorem cs_sz_plU (C : cS) (b : Bool) (x : Int32) (y : Int64) : c_sz (c_plU C b x y) = c_sz C := rfl
theorem cs_sz_curS (C : cS) (b : Bool) : c_sz (c_curS C b) = c_sz C := rfl
theorem cs_sz_spaS (C : cS) (b : Bool) : c_sz (c_spaS C b) = c_sz C := rfl
theorem cs_sz_rpS (C : cS) (b : Bool) : c_sz (c_rpS C b) = c_sz C := rfl
theorem cs_cur_iS (C : cS) (k : Nat) (v : Int32) : c_cur (c_iS C k v) = c_cur C := rfl
theorem cs_cur_aS (C : cS) (k : Nat) (f : Nat → Int32) : c_cur (c_aS C k f) = c_cur C := rfl
theorem cs_cur_aU (C : cS) (k : Nat) (x y : Int32) : c_cur (c_aU C k x y) = c_cur C := rfl
theorem cs_cur_lS (C : cS) (k : Nat) (f : Nat → Int64) : c_cur (c_lS C k f) = c_cur C := rfl
theorem cs_cur_lU (C : cS) (k : Nat) (x : Int32) (y : Int64) : c_cur (c_lU C k x y) = c_cur C := rfl
theorem cs_cur_pnS (C : cS) (b : Bool) (v : Int32) : c_cur (c_pnS C b v) = c_cur C := rfl
theorem cs_cur_paU (C : cS) (k : Nat) (b : Bool) (x y : Int32) : c_cur (c_paU C k b x y) = c_cur C := rfl
theorem cs_cur_plU (C : cS) (b : Bool) (x : Int32) (y : Int64) : c_cur (c_plU C b x y) = c_cur C := rfl
theorem cs_cur_curS (C : cS) (b : Bool) : c_cur (c_curS C b) = b := rfl
theorem cs_cur_spaS (C : cS) (b : Bool) : c_cur (c_spaS C b) = c_cur C := rfl
theorem cs_cur_rpS (C : cS) (b : Bool) : c_cur (c_rpS C b) = c_cur C := rfl
theorem cs_spa_iS (C : cS) (k : Nat) (v : Int32) : c_spa (c_iS C k v) = c_spa C := rfl
theorem cs_spa_aS (C : cS) (k : Nat) (f : Nat → Int32) : c_spa (c_aS C k f) = c_spa C := rfl
theorem cs_spa_aU (C : cS) (k : Nat) (x y : Int32) : c_spa (c_aU C k x y) = c_spa C := rfl
theorem cs_spa_lS (C : cS) (k : Nat) (f : Nat → Int64) : c_spa (c_lS C k f) = c_spa C := rfl
theorem cs_spa_lU (C : cS) (k : Nat) (x : Int32) (y : Int64) : c_spa (c_lU C k x y) = c_spa C := rfl
theorem cs_spa_pnS (C : cS) (b : Bool) (v : Int32) : c_spa (c_pnS C b v) = c_spa C := rfl
theorem cs_spa_paU (C : cS) (k : Nat) (b : Bool) (x y : Int32) : c_spa (c_paU C k b x y) = c_spa C := rfl
theorem cs_spa_plU (C : cS) (b : Bool) (x : Int32) (y : Int64) : c_spa (c_plU C b x y) = c_spa C := rfl
theorem cs_spa_curS (C : cS) (b : Bool) : c_spa (c_curS C b) = c_spa C := rfl
theorem cs_spa_spaS (C : cS) (b : Bool) : c_spa (c_spaS C b) = b := rfl
theorem cs_spa_rpS (C : cS) (b : Bool) : c_spa (c_rpS C b) = c_spa C := rfl
theorem cs_rp_iS (C : cS) (k : Nat) (v : Int32) : c_rp (c_iS C k v) = c_rp C := rfl
theorem cs_rp_aS (C : cS) (k : Nat) (f : Nat → Int32) : c_rp (c_aS C k f) = c_rp C := rfl
theorem cs_rp_aU (C : cS) (k : Nat) (x y : Int32) : c_rp (c_aU C k x y) = c_rp C := rfl
theorem cs_rp_lS (C : cS) (k : Nat) (f : Nat → Int64) : c_rp (c_lS C k f) = c_rp C := rfl
theorem cs_rp_lU (C : cS) (k : Nat) (x : Int32) (y : Int64) : c_rp (c_lU C k x y) = c_rp C := rfl
theorem cs_rp_pnS (C : cS) (b : Bool) (v : Int32) : c_rp (c_pnS C b v) = c_rp C := rfl
theorem cs_rp_paU (C : cS) (k : Nat) (b : Bool) (x y : Int32) : c_rp (c_paU C k b x y) = c_rp C := rfl
theorem cs_rp_plU (C : cS) (b : Bool) (x : Int32) (y : Int64) : c_rp (c_plU C b x y) = c_rp C := rfl
theorem cs_rp_curS (C : cS) (b : Bool) : c_rp (c_curS C b) = c_rp C := rfl
theorem cs_rp_spaS (C : cS) (b : Bool) : c_rp (c_spaS C b) = c_rp C := rfl
theorem cs_rp_rpS (C : cS) (b : Bool) : c_rp (c_rpS C b) = b := rfl
theorem cs_i_iS (C : cS) (k : Nat) (v : Int32) (j : Nat) : c_i (c_iS C k v) j = if j = k then v else c_i C j := rfl
theorem cs_i_aS (C : cS) (k : Nat) (f : Nat → Int32) (j : Nat) : c_i (c_aS C k f) j = c_i C j := rfl
theorem cs_i_aU (C : cS) (k : Nat) (x y : Int32) (j : Nat) : c_i (c_aU C k x y) j = c_i C j := rfl
theorem cs_i_lS (C : cS) (k : Nat) (f : Nat → Int64) (j : Nat) : c_i (c_lS C k f) j = c_i C j := rfl
theorem cs_i_lU (C : cS) (k : Nat) (x : Int32) (y : Int64) (j : Nat) : c_i (c_lU C k x y) j = c_i C j := rfl
theorem cs_i_pnS (C : cS) (b : Bool) (v : Int32) (j : Nat) : c_i (c_pnS C b v) j = c_i C j := rfl
theorem cs_i_paU (C : cS) (k : Nat) (b : Bool) (x y : Int32) (j : Nat) : c_i (c_paU C k b x y) j = c_i C j := rfl
theorem cs_i_plU (C : cS) (b : Bool) (x : Int32) (y : Int64) (j : Nat) : c_i (c_plU C b x y) j = c_i C j := rfl
theorem cs_i_curS (C : cS) (b : Bool) (j : Nat) : c_i (c_curS C b) j = c_i C j := rfl
theorem cs_i_spaS (C : cS) (b : Bool) (j : Nat) : c_i (c_spaS C b) j = c_i C j := rfl
theorem cs_i_rpS (C : cS) (b : Bool) (j : Nat) : c_i (c_rpS C b) j = c_i C j := rfl
theorem cs_a_iS (C : cS) (k : Nat) (v : Int32) (j : Nat) : c_a (c_iS C k v) j = c_a C j := rfl
theorem cs_a_aS (C : cS) (k : Nat) (f : Nat → Int32) (j : Nat) : c_a (c_aS C k f) j = if j = k then f else c_a C j := rfl
theorem cs_a_aU (C : cS) (k : Nat) (x y : Int32) (j : Nat) : c_a (c_aU C k x y) j = if j = k then upd (c_a C k) x.toNatClampNeg y else c_a C j := rfl
theorem cs_a_lS (C : cS) (k : Nat) (f : Nat → Int64) (j : Nat) : c_a (c_lS C k f) j = c_a C j := rfl
theorem cs_a_lU (C : cS) (k : Nat) (x : Int32) (y : Int64) (j : Nat) : c_a (c_lU C k x y) j = c_a C j := rfl
theorem cs_a_pnS (C : cS) (b : Bool) (v : Int32) (j : Nat) : c_a (c_pnS C b v) j = c_a C j := rfl
theorem cs_a_paU (C : cS) (k : Nat) (b : Bool) (x y : Int32) (j : Nat) : c_a (c_paU C k b x y) j = c_a C j := rfl
theorem cs_a_plU (C : cS) (b : Bool) (x : Int32) (y : Int64) (j : Nat) : c_a (c_plU C b x y) j = c_a C j := rfl
theorem cs_a_curS (C : cS) (b : Bool) (j : Nat) : c_a (c_curS C b) j = c_a C j := rfl
theorem cs_a_spaS (C : cS) (b : Bool) (j : Nat) : c_a (c_spaS C b) j = c_a C j := rfl
theorem cs_a_rpS (C : cS) (b : Bool) (j : Nat) : c_a (c_rpS C b) j = c_a C j := rfl
theorem cs_l_iS (C : cS) (k : Nat) (v : Int32) (j : Nat) : c_l (c_iS C k v) j = c_l C j := rfl
theorem cs_l_aS (C : cS) (k : Nat) (f : Nat → Int32) (j : Nat) : c_l (c_aS C k f) j = c_l C j := rfl
theorem cs_l_aU (C : cS) (k : Nat) (x y : Int32) (j : Nat) : c_l (c_aU C k x y) j = c_l C j := rfl
theorem cs_l_lS (C : cS) (k : Nat) (f : Nat → Int64) (j : Nat) : c_l (c_lS C k f) j = if j = k then f else c_l C j := rfl
theorem cs_l_lU (C : cS) (k : Nat) (x : Int32) (y : Int64) (j : Nat) : c_l (c_lU C k x y) j = if j = k then vp_updL (c_l C k) x.toNatClampNeg y else c_l C j := rfl
theorem cs_l_pnS (C : cS) (b : Bool) (v : Int32) (j : Nat) : c_l (c_pnS C b v) j = c_l C j := rfl
theorem cs_l_paU (C : cS) (k : Nat) (b : Bool) (x y : Int32) (j : Nat) : c_l (c_paU C k b x y) j = c_l C j := rfl
theorem cs_l_plU (C : cS) (b : Bool) (x : Int32) (y : Int64) (j : Nat) : c_l (c_plU C b x y) j = c_l C j := rfl
theorem cs_l_curS (C : cS) (b : Bool) (j : Nat) : c_l (c_curS C b) j = c_l C j := rfl
theorem cs_l_spaS (C : cS) (b : Bool) (j : Nat) : c_l (c_spaS C b) j = c_l C j := rfl
theorem cs_l_rpS (C : cS) (b : Bool) (j : Nat) : c_l (c_rpS C b) j = c_l C j := rfl
theorem cs_pn_iS (C : cS) (k : Nat) (v : Int32) (d : Bool) : c_pn (c_iS C k v) d = c_pn C d := rfl
theorem cs_pn_aS (C : cS) (k : Nat) (f : Nat → Int32) (d : Bool) : c_pn (c_aS C k f) d = c_pn C d := rfl
theorem cs_pn_aU (C : cS) (k : Nat) (x y : Int32) (d : Bool) : c_pn (c_aU C k x y) d = c_pn C d := rfl
theorem cs_pn_lS (C : cS) (k : Nat) (f : Nat → Int64) (d : Bool) : c_pn (c_lS C k f) d = c_pn C d := rfl
theorem cs_pn_lU (C : cS) (k : Nat) (x : Int32) (y : Int64) (d : Bool) : c_pn (c_lU C k x y) d = c_pn C d := rfl
theorem cs_pn_pnS (C : cS) (b : Bool) (v : Int32) (d : Bool) : c_pn (c_pnS C b v) d = if d = b then v else c_pn C d := rfl
theorem cs_pn_paU (C : cS) (k : Nat) (b : Bool) (x y : Int32) (d : Bool) : c_pn (c_paU C k b x y) d = c_pn C d := rfl
theorem cs_pn_plU (C : cS) (b : Bool) (x : Int32) (y : Int64) (d : Bool) : c_pn (c_plU C b x y) d = c_pn C d := rfl
theorem cs_pn_curS (C : cS) (b : Bool) (d : Bool) : c_pn (c_curS C b) d = c_pn C d := rfl
theorem cs_pn_spaS (C : cS) (b : Bool) (d : Bool) : c_pn (c_spaS C b) d = c_pn C d := rfl
theorem cs_pn_rpS (C : cS) (b : Bool) (d : Bool) : c_pn (c_rpS C b) d = c_pn C d := rfl
theorem cs_pa_iS (C : cS) (k : Nat) (v : Int32) (j : Nat) (d : Bool) : c_pa (c_iS C k v) j d = c_pa C j d := rfl
theorem cs_pa_aS (C : cS) (k : Nat) (f : Nat → Int32) (j : Nat) (d : Bool) : c_pa (c_aS C k f) j d = c_pa C j d := rfl
theorem cs_pa_aU (C : cS) (k : Nat) (x y : Int32) (j : Nat) (d : Bool) : c_pa (c_aU C k x y) j d = c_pa C j d := rfl
theorem cs_pa_lS (C : cS) (k : Nat) (f : Nat → Int64) (j : Nat) (d : Bool) : c_pa (c_lS C k f) j d = c_pa C j d := rfl
theorem cs_pa_lU (C : cS) (k : Nat) (x : Int32) (y : Int64) (j : Nat) (d : Bool) : c_pa (c_lU C k x y) j d = c_pa C j d := rfl
theorem cs_pa_pnS (C : cS) (b : Bool) (v : Int32) (j : Nat) (d : Bool) : c_pa (c_pnS C b v) j d = c_pa C j d := rfl
theorem cs_pa_paU (C : cS) (k : Nat) (b : Bool) (x y : Int32) (j : Nat) (d : Bool) : c_pa (c_paU C k b x y) j d = if j = k then (if d = b then upd (c_pa C k b) x.toNatClampNeg y else c_pa C j d) else c_pa C j d := rfl
theorem cs_pa_plU (C : cS) (b : Bool) (x : Int32) (y : Int64) (j : Nat) (d : Bool) : c_pa (c_plU C b x y) j d = c_pa C j d := rfl
theorem cs_pa_curS (C : cS) (b : Bool) (j : Nat) (d : Bool) : c_pa (c_curS C b) j d = c_pa C j d := rfl
theorem cs_pa_spaS (C : cS) (b : Bool) (j : Nat) (d : Bool) : c_pa (c_spaS C b) j d = c_pa C j d := rfl
theorem cs_pa_rpS (C : cS) (b : Bool) (j : Nat) (d : Bool) : c_pa (c_rpS C b) j d = c_pa C j d := rfl
theorem cs_pl_iS (C : cS) (k : Nat) (v : Int32) (d : Bool) : c_pl (c_iS C k v) d = c_pl C d := rfl
theorem cs_pl_aS (C : cS) (k : Nat) (f : Nat → Int32) (d : Bool) : c_pl (c_aS C k f) d = c_pl C d := rfl
theorem cs_pl_aU (C : cS) (k : Nat) (x y : Int32) (d : Bool) : c_pl (c_aU C k x y) d = c_pl C d := rfl
theorem cs_pl_lS (C : cS) (k : Nat) (f : Nat → Int64) (d : Bool) : c_pl (c_lS C k f) d = c_pl C d := rfl
theorem cs_pl_lU (C : cS) (k : Nat) (x : Int32) (y : Int64) (d : Bool) : c_pl (c_lU C k x y) d = c_pl C d := rfl
theorem cs_pl_pnS (C : cS) (b : Bool) (v : Int32) (d : Bool) : c_pl (c_pnS C b v) d = c_pl C d := rfl
theorem cs_pl_paU (C : cS) (k : Nat) (b : Bool) (x y : Int32) (d : Bool) : c_pl (c_paU C k b x y) d = c_pl C d := rfl
theorem cs_pl_plU (C : cS) (b : Bool) (x : Int32) (y : Int64) (d : Bool) : c_pl (c_plU C b x y) d = if d = b then vp_updL (c_pl C b) x.toNatClampNeg y else c_pl C d := rfl
theorem cs_pl_curS (C : cS) (b : Bool) (d : Bool) : c_pl (c_curS C b) d = c_pl C d := rfl
theorem cs_pl_spaS (C : cS) (b : Bool) (d : Bool) : c_pl (c_spaS C b) d = c_pl C d := rfl
theorem cs_pl_rpS (C : cS) (b : Bool) (d : Bool) : c_pl (c_rpS C b) d = c_pl C d := rfl
theorem ms_i_iS (M : mS) (k : Nat) (v : Int32) (j : Nat) : m_i (m_iS M k v) j = if j = k then v else m_i M j := rfl
theorem ms_i_aS (M : mS) (k : Nat) (f : Nat → Int32) (j : Nat) : m_i (m_aS M k f) j = m_i M j := rfl
theorem ms_i_aU (M : mS) (k : Nat) (x y : Int32) (j : Nat) : m_i (m_aU M k x y) j = m_i M j := rfl
theorem ms_i_lS (M : mS) (k : Nat) (f : Nat → Int64) (j : Nat) : m_i (m_lS M k f) j = m_i M j := rfl
theorem ms_i_lU (M : mS) (k : Nat) (x : Int32) (y : Int64) (j : Nat) : m_i (m_lU M k x y) j = m_i M j := rfl
theorem ms_a_iS (M : mS) (k : Nat) (v : Int32) (j : Nat) : m_a (m_iS M k v) j = m_a M j := rfl
theorem ms_a_aS (M : mS) (k : Nat) (f : Nat → Int32) (j : Nat) : m_a (m_aS M k f) j = if j = k then f else m_a M j := rfl
theorem ms_a_aU (M : mS) (k : Nat) (x y : Int32) (j : Nat) : m_a (m_aU M k x y) j = if j = k then upd (m_a M k) x.toNatClampNeg y else m_a M j := rfl
theorem ms_a_lS (M : mS) (k : Nat) (f : Nat → Int64) (j : Nat) : m_a (m_lS M k f) j = m_a M j := rfl
theorem ms_a_lU (M : mS) (k : Nat) (x : Int32) (y : Int64) (j : Nat) : m_a (m_lU M k x y) j = m_a M j := rfl
theorem ms_l_iS (M : mS) (k : Nat) (v : Int32) (j : Nat) : m_l (m_iS M k v) j = m_l M j := rfl
theorem ms_l_aS (M : mS) (k : Nat) (f : Nat → Int32) (j : Nat) : m_l (m_aS M k f) j = m_l M j := rfl
theorem ms_l_aU (M : mS) (k : Nat) (x y : Int32) (j : Nat) : m_l (m_aU M k x y) j = m_l M j := rfl
theorem ms_l_lS (M : mS) (k : Nat) (f : Nat → Int64) (j : Nat) : m_l (m_lS M k f) j = if j = k then f else m_l M j := rfl
theorem ms_l_lU (M : mS) (k : Nat) (x : Int32) (y : Int64) (j : Nat) : m_l (m_lU M k x y) j = if j = k then vp_updL (m_l M k) x.toNatClampNeg y else m_l M j := rfl
theorem up_at (f : Nat → Int32) (k : Nat) (x : Int32) (j : Nat) : upd f k x j = if j = k then x else f j := rfl
theorem upL_at (f : Nat → Int64) (k : Nat) (x : Int64) (j : Nat) : vp_updL f k x j = if j = k then x else f j := rfl
theorem cpy_at (f g : Nat → Int32) (a b n j : Nat) : va_cpy f g a b n j = if b ≤ j ∧ j < b + n then f (a + (j - b)) else g j := rfl
theorem ni_al (a n : Nat) : nI a + (OfNat.ofNat n : Int32) = nI (a + OfNat.ofNat n) := nI_add a n
theorem ni_la (a n : Nat) : (OfNat.ofNat n : Int32) + nI a = nI (OfNat.ofNat n + a) := nI_add n a
theorem ni_ml (a n : Nat) : nI a * (OfNat.ofNat n : Int32) = nI (a * OfNat.ofNat n) := pk_mul a n
theorem ni_lm (a n : Nat) : (OfNat.ofNat n : Int32) * nI a = nI (OfNat.ofNat n * a) := pk_mul n a
theorem ni_sl {a n : Nat} (h : OfNat.ofNat n ≤ a) : nI a - (OfNat.ofNat n : Int32) = nI (a - OfNat.ofNat n) := pk_sub (b := n) h
theorem ni_ls {a n : Nat} (h : a ≤ OfNat.ofNat n) : (OfNat.ofNat n : Int32) - nI a = nI (OfNat.ofNat n - a) := pk_sub (a := n) h
theorem ni_lel {a n : Nat} (ha : a < 2147483648) (hn : OfNat.ofNat n < 2147483648) : nI a ≤ (OfNat.ofNat n : Int32) ↔ a ≤ OfNat.ofNat n := nI_leI (b := n) ha hn
theorem ni_lle {a n : Nat} (ha : a < 2147483648) (hn : OfNat.ofNat n < 2147483648) : (OfNat.ofNat n : Int32) ≤ nI a ↔ OfNat.ofNat n ≤ a := nI_leI (a := n) hn ha
theorem ni_ltl {a n : Nat} (ha : a < 2147483648) (hn : OfNat.ofNat n < 2147483648) : nI a < (OfNat.ofNat n : Int32) ↔ a < OfNat.ofNat n := nI_ltI (b := n) ha hn
theorem ni_llt {a n : Nat} (ha : a < 2147483648) (hn : OfNat.ofNat n < 2147483648) : (OfNat.ofNat n : Int32) < nI a ↔ OfNat.ofNat n < a := nI_ltI (a := n) hn ha
theorem ni_eql {a n : Nat} (ha : a < 2147483648) (hn : OfNat.ofNat n < 2147483648) : nI a = (OfNat.ofNat n : Int32) ↔ a = OfNat.ofNat n := nI_eq (b := n) ha hn
theorem ni_leq {a n : Nat} (ha : a < 2147483648) (hn : OfNat.ofNat n < 2147483648) : (OfNat.ofNat n : Int32) = nI a ↔ OfNat.ofNat n = a := nI_eq (a := n) hn ha
theorem ni_le {a b : Nat} (ha : a < 2147483648) (hb : b < 2147483648) : nI a ≤ nI b ↔ a ≤ b := nI_leI ha hb
theorem ni_lt {a b : Nat} (ha : a < 2147483648) (hb : b < 2147483648) : nI a < nI b ↔ a < b := nI_ltI ha hb
theorem ni_eq {a b : Nat} (ha : a < 2147483648) (hb : b < 2147483648) : nI a = nI b ↔ a = b := nI_eq ha hb
theorem ni_m1 {a : Nat} (ha : a < 2147483648) : nI a = (-1 : Int32) ↔ False := by
  refine iff_false_intro fun h => ?_
  have h1 := congrArg Int32.toInt h
  rw [nI_toInt ha, show ((-1 : Int32)).toInt = -1 from rfl] at h1
  omega
theorem ni_1m {a : Nat} (ha : a < 2147483648) : (-1 : Int32) = nI a ↔ False := by rw [eq_comm]; exact ni_m1 ha
theorem ni_cl {a : Nat} (ha : a < 2147483648) : (nI a).toNatClampNeg = a := nI_clamp ha
theorem ni_cll {n : Nat} (hn : OfNat.ofNat n < 2147483648) : (OfNat.ofNat n : Int32).toNatClampNeg = OfNat.ofNat n := nI_clamp (n := n) hn
theorem ni_in {a N : Nat} (ha : a < 2147483648) : vp_in (nI a) N ↔ a < N := by
  unfold vp_in
  rw [nI_clamp ha]
  constructor
  · intro h; exact Nat.lt_of_not_le fun q => h (Or.inr q)
  · rintro h (q | q)
    · exact nI_pos ha q
    · omega
theorem ni_inl {n N : Nat} (hn : OfNat.ofNat n < 2147483648) : vp_in (OfNat.ofNat n : Int32) N ↔ OfNat.ofNat n < N := ni_in (a := n) hn
theorem ni_sub {a b : Nat} (h : b ≤ a) : nI a - nI b = nI (a - b) := pk_sub h
theorem ni_lit (n : Nat) : (OfNat.ofNat n : Int32) = nI (OfNat.ofNat n) := rfl
theorem ni_ex {x : Int32} (h : ¬ x < 0) : ∃ j : Nat, j < 2147483648 ∧ x = nI j := nI_of h
theorem ni_in_ex {x : Int32} {n : Nat} (h : vp_in x n) (hn : n < 2147483648) : ∃ j : Nat, j < n ∧ x = nI j := vp_in_of h hn
end ZB
