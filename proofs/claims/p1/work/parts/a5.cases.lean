/-! ===== the law, call by call ===== -/
def IF_region (l : Launch) (LI : XS9 → XS9 → Prop) : Prop := ∀ (z : Int64) (τ σ : XS9) (p0 p1 p2 : Int32), LI τ σ → ∃ (o : Int32 ⊕ String) (σ' : XS9) (v : Int32) (z' : Int64) (τ' : XS9), (∀ h, okC h → XEo l m_X7_region 7 1 6 [.ref 1000, .int p0, .int p1, .int p2] (setC σ h) (xoi o) (setC σ' h)) ∧ (∀ E, o = .inr E → E = eIAE ∨ E = eISE) ∧ (∀ h, okM h → XEx l m_X14_region 10 2 22 [.ref 5000, .int p0, .int p1, .int p2] (setM z τ h) (some (.int v)) (setM z' τ' h)) ∧ LI τ' σ' ∧ (τ' 5000 0 = lw_k [eIAE, eISE] o ∧ ∀ w, o = .inl w → w = v)
def IF_border (l : Launch) (LI : XS9 → XS9 → Prop) : Prop := ∀ (z : Int64) (τ σ : XS9) (p0 p1 : Int32), LI τ σ → ∃ (o : Int32 ⊕ String) (σ' : XS9) (v : Int32) (z' : Int64) (τ' : XS9), (∀ h, okC h → XEo l m_X7_border 7 1 6 [.ref 1000, .int p0, .int p1] (setC σ h) (xoi o) (setC σ' h)) ∧ (∀ E, o = .inr E → E = eIOB ∨ E = eIAE ∨ E = eISE) ∧ (∀ h, okM h → XEx l m_X14_border 9 1 4 [.ref 5000, .int p0, .int p1] (setM z τ h) (some (.int v)) (setM z' τ' h)) ∧ LI τ' σ' ∧ (τ' 5000 0 = lw_k [eIOB, eIAE, eISE] o ∧ ∀ w, o = .inl w → w = v)
def IF_bidder (l : Launch) (LI : XS9 → XS9 → Prop) : Prop := ∀ (z : Int64) (τ σ : XS9) (p0 p1 p2 p3 : Int32), LI τ σ → ∃ (o : Int32 ⊕ String) (σ' : XS9) (v : Int32) (z' : Int64) (τ' : XS9), (∀ h, okC h → XEo l m_X7_bidder 7 1 6 [.ref 1000, .int p0, .int p1, .int p2, .int p3] (setC σ h) (xoi o) (setC σ' h)) ∧ (∀ E, o = .inr E → E = eIAE ∨ E = eISE) ∧ (∀ h, okM h → XEx l m_X14_bidder 10 3 27 [.ref 5000, .int p0, .int p1, .int p2, .int p3] (setM z τ h) (some (.int v)) (setM z' τ' h)) ∧ LI τ' σ' ∧ (τ' 5000 0 = lw_k [eIAE, eISE] o ∧ ∀ w, o = .inl w → w = v)
def IF_rules (l : Launch) (LI : XS9 → XS9 → Prop) : Prop := ∀ (z : Int64) (τ σ : XS9) (p0 p1 : Int32), LI τ σ → (p1 = 0 ∨ p1 = 1) → ∃ (o : Int32 ⊕ String) (σ' : XS9) (v : Int32) (z' : Int64) (τ' : XS9), (∀ h, okC h → XEo l m_X7_rules 7 1 6 [.ref 1000, .int p0, .int p1] (setC σ h) (xoi o) (setC σ' h)) ∧ (∀ E, o = .inr E → E = eIAE ∨ E = eISE) ∧ (∀ h, okM h → XEx l m_X14_rules 1 0 0 [.ref 5000, .int p0, .int p1] (setM z τ h) (some (.int v)) (setM z' τ' h)) ∧ LI τ' σ' ∧ (τ' 5000 0 = lw_k [eIAE, eISE] o ∧ ∀ w, o = .inl w → w = v)
def IF_step (l : Launch) (LI : XS9 → XS9 → Prop) : Prop := ∀ (z : Int64) (τ σ : XS9) (p0 : Int32), LI τ σ → ∃ (o : Int32 ⊕ String) (σ' : XS9) (v : Int32) (z' : Int64) (τ' : XS9), (∀ h, okC h → XEo l m_X7_step 7 1 6 [.ref 1000, .int p0] (setC σ h) (xoi o) (setC σ' h)) ∧ (∀ E, o = .inr E → E = eIAE ∨ E = eISE) ∧ (∀ h, okM h → XEx l m_X14_step 1 0 0 [.ref 5000, .int p0] (setM z τ h) (some (.int v)) (setM z' τ' h)) ∧ LI τ' σ' ∧ (τ' 5000 0 = lw_k [eIAE, eISE] o ∧ ∀ w, o = .inl w → w = v)
def IF_open (l : Launch) (LI : XS9 → XS9 → Prop) : Prop := ∀ (z : Int64) (τ σ : XS9) , LI τ σ → ∃ (o : Int32 ⊕ String) (σ' : XS9) (v : Int32) (z' : Int64) (τ' : XS9), (∀ h, okC h → XEo l m_X7_open 7 1 6 [.ref 1000] (setC σ h) (xoi o) (setC σ' h)) ∧ (∀ E, o = .inr E → E = eISE) ∧ (∀ h, okM h → XEx l m_X14_open 10 11 62 [.ref 5000] (setM z τ h) (some (.int v)) (setM z' τ' h)) ∧ LI τ' σ' ∧ (τ' 5000 0 = lw_k [eISE] o ∧ ∀ w, o = .inl w → w = v)
def IF_wish (l : Launch) (LI : XS9 → XS9 → Prop) : Prop := ∀ (z : Int64) (τ σ : XS9) (p0 p1 p2 : Int32), LI τ σ → ∃ (o : Int32 ⊕ String) (σ' : XS9) (v : Int32) (z' : Int64) (τ' : XS9), (∀ h, okC h → XEo l m_X7_wish 7 1 6 [.ref 1000, .int p0, .int p1, .int p2] (setC σ h) (xoi o) (setC σ' h)) ∧ (∀ E, o = .inr E → E = eIOB ∨ E = eIAE ∨ E = eISE) ∧ (∀ h, okM h → XEx l m_X14_wish 5 0 0 [.ref 5000, .int p0, .int p1, .int p2] (setM z τ h) (some (.int v)) (setM z' τ' h)) ∧ LI τ' σ' ∧ (τ' 5000 0 = lw_k [eIOB, eIAE, eISE] o ∧ ∀ w, o = .inl w → w = v)
def IF_waive (l : Launch) (LI : XS9 → XS9 → Prop) : Prop := ∀ (z : Int64) (τ σ : XS9) (p0 : Int32), LI τ σ → ∃ (o : Int32 ⊕ String) (σ' : XS9) (v : Int32) (z' : Int64) (τ' : XS9), (∀ h, okC h → XEo l m_X7_waive 7 1 6 [.ref 1000, .int p0] (setC σ h) (xoi o) (setC σ' h)) ∧ (∀ E, o = .inr E → E = eIOB ∨ E = eISE) ∧ (∀ h, okM h → XEx l m_X14_waive 2 0 0 [.ref 5000, .int p0] (setM z τ h) (some (.int v)) (setM z' τ' h)) ∧ LI τ' σ' ∧ (τ' 5000 0 = lw_k [eIOB, eISE] o ∧ ∀ w, o = .inl w → w = v)
def IF_close (l : Launch) (LI : XS9 → XS9 → Prop) : Prop := ∀ (z : Int64) (τ σ : XS9) (p0 : Int32), LI τ σ → ∃ (o : Int32 ⊕ String) (σ' : XS9) (v : Int32) (z' : Int64) (τ' : XS9), (∀ h, okC h → XEo l m_X7_close 11 1 6 [.ref 1000, .int p0] (setC σ h) (xoi o) (setC σ' h)) ∧ (∀ E, o = .inr E → E = eIAE ∨ E = eISE) ∧ (∀ h, okM h → XEx l m_X14_close 13 324 6507 [.ref 5000, .int p0] (setM z τ h) (some (.int v)) (setM z' τ' h)) ∧ LI τ' σ' ∧ (τ' 5000 0 = lw_k [eIAE, eISE] o ∧ ∀ w, o = .inl w → w = v)
def IF_offer (l : Launch) (LI : XS9 → XS9 → Prop) : Prop := ∀ (z : Int64) (τ σ : XS9) (p0 p1 p2 : Int32), LI τ σ → ∃ (o : Int32 ⊕ String) (σ' : XS9) (v : Int32) (z' : Int64) (τ' : XS9), (∀ h, okC h → XEo l m_X7_offer 10 1 6 [.ref 1000, .int p0, .int p1, .int p2] (setC σ h) (xoi o) (setC σ' h)) ∧ (∀ E, o = .inr E → E = eIOB ∨ E = eIAE ∨ E = eISE) ∧ (∀ h, okM h → XEx l m_X14_offer 9 4 58 [.ref 5000, .int p0, .int p1, .int p2] (setM z τ h) (some (.int v)) (setM z' τ' h)) ∧ LI τ' σ' ∧ (τ' 5000 0 = lw_k [eIOB, eIAE, eISE] o ∧ ∀ w, o = .inl w → w = v)
def IF_settle (l : Launch) (LI : XS9 → XS9 → Prop) : Prop := ∀ (z : Int64) (τ σ : XS9) (p0 : Int32), LI τ σ → ∃ (o : Int32 ⊕ String) (σ' : XS9) (v : Int32) (z' : Int64) (τ' : XS9), (∀ h, okC h → XEo l m_X7_settle 7 1 6 [.ref 1000, .int p0] (setC σ h) (xoi o) (setC σ' h)) ∧ (∀ E, o = .inr E → E = eIAE ∨ E = eISE) ∧ (∀ h, okM h → XEx l m_X14_settle 24 7 114 [.ref 5000, .int p0] (setM z τ h) (some (.int v)) (setM z' τ' h)) ∧ LI τ' σ' ∧ (τ' 5000 0 = lw_k [eIAE, eISE] o ∧ ∀ w, o = .inl w → w = v)
def IF_fail (l : Launch) (LI : XS9 → XS9 → Prop) : Prop := ∀ (z : Int64) (τ σ : XS9) (p0 : Int32), LI τ σ → ∃ (o : Int32 ⊕ String) (σ' : XS9) (v : Int32) (z' : Int64) (τ' : XS9), (∀ h, okC h → XEo l m_X7_fail 7 1 6 [.ref 1000, .int p0] (setC σ h) (xoi o) (setC σ' h)) ∧ (∀ E, o = .inr E → E = eIOB ∨ E = eISE) ∧ (∀ h, okM h → XEx l m_X14_fail 24 7 114 [.ref 5000, .int p0] (setM z τ h) (some (.int v)) (setM z' τ' h)) ∧ LI τ' σ' ∧ (τ' 5000 0 = lw_k [eIOB, eISE] o ∧ ∀ w, o = .inl w → w = v)
def IF_station (l : Launch) (LI : XS9 → XS9 → Prop) : Prop := ∀ (z : Int64) (τ σ : XS9) (p0 p1 : Int32), LI τ σ → ∃ (o : Int32 ⊕ String) (σ' : XS9) (v : Int32) (z' : Int64) (τ' : XS9), (∀ h, okC h → XEo l m_X7_station 7 1 6 [.ref 1000, .int p0, .int p1] (setC σ h) (xoi o) (setC σ' h)) ∧ (∀ E, o = .inr E → E = eIOB ∨ E = eIAE ∨ E = eISE) ∧ (∀ h, okM h → XEx l m_X14_station 9 4 90 [.ref 5000, .int p0, .int p1] (setM z τ h) (some (.int v)) (setM z' τ' h)) ∧ LI τ' σ' ∧ (τ' 5000 0 = lw_k [eIOB, eIAE, eISE] o ∧ ∀ w, o = .inl w → w = v)
def IF_packs (l : Launch) (LI : XS9 → XS9 → Prop) : Prop := ∀ (z : Int64) (τ σ : XS9) (p0 p1 : Int32), LI τ σ → ∃ (o : Int32 ⊕ String) (σ' : XS9) (v : Int32) (z' : Int64) (τ' : XS9), (∀ h, okC h → XEo l m_X7_packs 13 1 6 [.ref 1000, .int p0, .int p1] (setC σ h) (xoi o) (setC σ' h)) ∧ (∀ E, o = .inr E → E = eIAE) ∧ (∀ h, okM h → XEx l m_X14_packs 18 1 6 [.ref 5000, .int p0, .int p1] (setM z τ h) (some (.int v)) (setM z' τ' h)) ∧ LI τ' σ' ∧ (τ' 5000 0 = lw_k [eIAE] o ∧ ∀ w, o = .inl w → w = v)
def IF_channel (l : Launch) (LI : XS9 → XS9 → Prop) : Prop := ∀ (z : Int64) (τ σ : XS9) (p0 p1 p2 : Int32), LI τ σ → ∃ (o : Int32 ⊕ String) (σ' : XS9) (v : Int32) (z' : Int64) (τ' : XS9), (∀ h, okC h → XEo l m_X7_channel 13 1 6 [.ref 1000, .int p0, .int p1, .int p2] (setC σ h) (xoi o) (setC σ' h)) ∧ (∀ E, o = .inr E → E = eIOB ∨ E = eIAE) ∧ (∀ h, okM h → XEx l m_X14_channel 19 1 6 [.ref 5000, .int p0, .int p1, .int p2] (setM z τ h) (some (.int v)) (setM z' τ' h)) ∧ LI τ' σ' ∧ (τ' 5000 0 = lw_k [eIOB, eIAE] o ∧ ∀ w, o = .inl w → w = v)
def IF_clear (l : Launch) (LI : XS9 → XS9 → Prop) : Prop := ∀ (z : Int64) (τ σ : XS9) (p0 : Int32), LI τ σ → ∃ (o : Int32 ⊕ String) (σ' : XS9) (v : Int32) (z' : Int64) (τ' : XS9), (∀ h, okC h → XEo l m_X7_clear 13 1 6 [.ref 1000, .int p0] (setC σ h) (xoi o) (setC σ' h)) ∧ (∀ E, o = .inr E → E = eIAE) ∧ (∀ h, okM h → XEx l m_X14_clear 19 1 6 [.ref 5000, .int p0] (setM z τ h) (some (.int v)) (setM z' τ' h)) ∧ LI τ' σ' ∧ (τ' 5000 0 = lw_k [eIAE] o ∧ ∀ w, o = .inl w → w = v)
def IF_ofRegion (l : Launch) (LI : XS9 → XS9 → Prop) : Prop := ∀ (z : Int64) (τ σ : XS9) (p0 p1 : Int32), LI τ σ → ∃ (o : Int32 ⊕ String) (σ' : XS9) (v : Int32) (z' : Int64) (τ' : XS9), (∀ h, okC h → XEo l m_X7_ofRegion 7 1 6 [.ref 1000, .int p0, .int p1] (setC σ h) (xoi o) (setC σ' h)) ∧ (∀ E, o = .inr E → E = eIOB ∨ E = eIAE) ∧ (∀ h, okM h → XEx l m_X14_ofRegion 5 0 0 [.ref 5000, .int p0, .int p1] (setM z τ h) (some (.int v)) (setM z' τ' h)) ∧ LI τ' σ' ∧ (τ' 5000 0 = lw_k [eIOB, eIAE] o ∧ ∀ w, o = .inl w → w = v)
def IF_ofBidder (l : Launch) (LI : XS9 → XS9 → Prop) : Prop := ∀ (z : Int64) (τ σ : XS9) (p0 p1 : Int32), LI τ σ → ∃ (o : Int32 ⊕ String) (σ' : XS9) (v : Int32) (z' : Int64) (τ' : XS9), (∀ h, okC h → XEo l m_X7_ofBidder 7 1 6 [.ref 1000, .int p0, .int p1] (setC σ h) (xoi o) (setC σ' h)) ∧ (∀ E, o = .inr E → E = eIOB ∨ E = eIAE) ∧ (∀ h, okM h → XEx l m_X14_ofBidder 6 0 0 [.ref 5000, .int p0, .int p1] (setM z τ h) (some (.int v)) (setM z' τ' h)) ∧ LI τ' σ' ∧ (τ' 5000 0 = lw_k [eIOB, eIAE] o ∧ ∀ w, o = .inl w → w = v)
def IF_wants (l : Launch) (LI : XS9 → XS9 → Prop) : Prop := ∀ (z : Int64) (τ σ : XS9) (p0 p1 p2 : Int32), LI τ σ → (p2 = 0 ∨ p2 = 1) → ∃ (o : Int32 ⊕ String) (σ' : XS9) (v : Int32) (z' : Int64) (τ' : XS9), (∀ h, okC h → XEo l m_X7_wants 7 1 6 [.ref 1000, .int p0, .int p1, .int p2] (setC σ h) (xoi o) (setC σ' h)) ∧ (∀ E, o = .inr E → E = eIOB) ∧ (∀ h, okM h → XEx l m_X14_wants 2 0 0 [.ref 5000, .int p0, .int p1, .int p2] (setM z τ h) (some (.int v)) (setM z' τ' h)) ∧ LI τ' σ' ∧ (τ' 5000 0 = lw_k [eIOB] o ∧ ∀ w, o = .inl w → w = v)
def IF_priceIn (l : Launch) (LI : XS9 → XS9 → Prop) : Prop := ∀ (z : Int64) (τ σ : XS9) (p0 p1 : Int32), LI τ σ → ∃ (o : Int32 ⊕ String) (σ' : XS9) (v : Int32) (z' : Int64) (τ' : XS9), (∀ h, okC h → XEo l m_X7_priceIn 7 1 6 [.ref 1000, .int p0, .int p1] (setC σ h) (xoi o) (setC σ' h)) ∧ (∀ E, o = .inr E → E = eIOB) ∧ (∀ h, okM h → XEx l m_X14_priceIn 3 0 0 [.ref 5000, .int p0, .int p1] (setM z τ h) (some (.int v)) (setM z' τ' h)) ∧ LI τ' σ' ∧ (τ' 5000 0 = lw_k [eIOB] o ∧ ∀ w, o = .inl w → w = v)
def IF_codeIn (l : Launch) (LI : XS9 → XS9 → Prop) : Prop := ∀ (z : Int64) (τ σ : XS9) (p0 p1 p2 : Int32), LI τ σ → (p2 = 0 ∨ p2 = 1) → ∃ (o : Int32 ⊕ String) (σ' : XS9) (v : Int32) (z' : Int64) (τ' : XS9), (∀ h, okC h → XEo l m_X7_codeIn 7 1 6 [.ref 1000, .int p0, .int p1, .int p2] (setC σ h) (xoi o) (setC σ' h)) ∧ (∀ E, o = .inr E → E = eIOB) ∧ (∀ h, okM h → XEx l m_X14_codeIn 3 0 0 [.ref 5000, .int p0, .int p1, .int p2] (setM z τ h) (some (.int v)) (setM z' τ' h)) ∧ LI τ' σ' ∧ (τ' 5000 0 = lw_k [eIOB] o ∧ ∀ w, o = .inl w → w = v)
def IF_ofPackage (l : Launch) (LI : XS9 → XS9 → Prop) : Prop := ∀ (z : Int64) (τ σ : XS9) (p0 p1 p2 : Int32), LI τ σ → (p2 = 0 ∨ p2 = 1) → ∃ (o : Int32 ⊕ String) (σ' : XS9) (v : Int32) (z' : Int64) (τ' : XS9), (∀ h, okC h → XEo l m_X7_ofPackage 7 1 6 [.ref 1000, .int p0, .int p1, .int p2] (setC σ h) (xoi o) (setC σ' h)) ∧ (∀ E, o = .inr E → E = eIOB) ∧ (∀ h, okM h → XEx l m_X14_ofPackage 5 0 0 [.ref 5000, .int p0, .int p1, .int p2] (setM z τ h) (some (.int v)) (setM z' τ' h)) ∧ LI τ' σ' ∧ (τ' 5000 0 = lw_k [eIOB] o ∧ ∀ w, o = .inl w → w = v)
def IF_wins (l : Launch) (LI : XS9 → XS9 → Prop) : Prop := ∀ (z : Int64) (τ σ : XS9) (p0 : Int32), LI τ σ → ∃ (o : Int32 ⊕ String) (σ' : XS9) (v : Int32) (z' : Int64) (τ' : XS9), (∀ h, okC h → XEo l m_X7_wins 7 1 6 [.ref 1000, .int p0] (setC σ h) (xoi o) (setC σ' h)) ∧ (∀ E, o = .inr E → E = eIOB) ∧ (∀ h, okM h → XEx l m_X14_wins 22 6 108 [.ref 5000, .int p0] (setM z τ h) (some (.int v)) (setM z' τ' h)) ∧ LI τ' σ' ∧ (τ' 5000 0 = lw_k [eIOB] o ∧ ∀ w, o = .inl w → w = v)
def IF_pays (l : Launch) (LI : XS9 → XS9 → Prop) : Prop := ∀ (z : Int64) (τ σ : XS9) (p0 p1 : Int32), LI τ σ → (p1 = 0 ∨ p1 = 1) → ∃ (o : Int32 ⊕ String) (σ' : XS9) (v : Int32) (z' : Int64) (τ' : XS9), (∀ h, okC h → XEo l m_X7_pays 7 1 6 [.ref 1000, .int p0, .int p1] (setC σ h) (xoi o) (setC σ' h)) ∧ (∀ E, o = .inr E → E = eIOB) ∧ (∀ h, okM h → XEx l m_X14_pays 4 0 0 [.ref 5000, .int p0, .int p1] (setM z τ h) (some (.int v)) (setM z' τ' h)) ∧ LI τ' σ' ∧ (τ' 5000 0 = lw_k [eIOB] o ∧ ∀ w, o = .inl w → w = v)
def IF_holder (l : Launch) (LI : XS9 → XS9 → Prop) : Prop := ∀ (z : Int64) (τ σ : XS9) (p0 p1 : Int32), LI τ σ → ∃ (o : Int32 ⊕ String) (σ' : XS9) (v : Int32) (z' : Int64) (τ' : XS9), (∀ h, okC h → XEo l m_X7_holder 7 1 6 [.ref 1000, .int p0, .int p1] (setC σ h) (xoi o) (setC σ' h)) ∧ (∀ E, o = .inr E → E = eIOB) ∧ (∀ h, okM h → XEx l m_X14_holder 7 0 0 [.ref 5000, .int p0, .int p1] (setM z τ h) (some (.int v)) (setM z' τ' h)) ∧ LI τ' σ' ∧ (τ' 5000 0 = lw_k [eIOB] o ∧ ∀ w, o = .inl w → w = v)
def IF_sale (l : Launch) (LI : XS9 → XS9 → Prop) : Prop := ∀ (z : Int64) (τ σ : XS9) (p0 : Int32), LI τ σ → ∃ (o : Int32 ⊕ String) (σ' : XS9) (v : Int32) (z' : Int64) (τ' : XS9), (∀ h, okC h → XEo l m_X7_sale 7 1 6 [.ref 1000, .int p0] (setC σ h) (xoi o) (setC σ' h)) ∧ (∀ E, o = .inr E → E = eIAE) ∧ (∀ h, okM h → XEx l m_X14_sale 22 6 108 [.ref 5000, .int p0] (setM z τ h) (some (.int v)) (setM z' τ' h)) ∧ LI τ' σ' ∧ (τ' 5000 0 = lw_k [eIAE] o ∧ ∀ w, o = .inl w → w = v)
def IF_worth (l : Launch) (LI : XS9 → XS9 → Prop) : Prop := ∀ (z : Int64) (τ σ : XS9) (p0 : Int32), LI τ σ → ∃ (o : Int32 ⊕ String) (σ' : XS9) (v : Int32) (z' : Int64) (τ' : XS9), (∀ h, okC h → XEo l m_X7_worth 7 1 6 [.ref 1000, .int p0] (setC σ h) (xoi o) (setC σ' h)) ∧ (∀ E, o = .inr E → E = eIAE) ∧ (∀ h, okM h → XEx l m_X14_worth 22 6 108 [.ref 5000, .int p0] (setM z τ h) (some (.int v)) (setM z' τ' h)) ∧ LI τ' σ' ∧ (τ' 5000 0 = lw_k [eIAE] o ∧ ∀ w, o = .inl w → w = v)
def IF_wouldPay (l : Launch) (LI : XS9 → XS9 → Prop) : Prop := ∀ (z : Int64) (τ σ : XS9) (p0 p1 : Int32), LI τ σ → ∃ (o : Int32 ⊕ String) (σ' : XS9) (v : Int32) (z' : Int64) (τ' : XS9), (∀ h, okC h → XEo l m_X7_wouldPay 7 1 6 [.ref 1000, .int p0, .int p1] (setC σ h) (xoi o) (setC σ' h)) ∧ (∀ E, o = .inr E → E = eIOB ∨ E = eIAE) ∧ (∀ h, okM h → XEx l m_X14_wouldPay 22 7 114 [.ref 5000, .int p0, .int p1] (setM z τ h) (some (.int v)) (setM z' τ' h)) ∧ LI τ' σ' ∧ (τ' 5000 0 = lw_k [eIOB, eIAE] o ∧ ∀ w, o = .inl w → w = v)
def IF_objects (l : Launch) (LI : XS9 → XS9 → Prop) : Prop := ∀ (z : Int64) (τ σ : XS9) (p0 p1 : Int32), LI τ σ → ∃ (o : Int32 ⊕ String) (σ' : XS9) (v : Int32) (z' : Int64) (τ' : XS9), (∀ h, okC h → XEo l m_X7_objects 7 1 6 [.ref 1000, .int p0, .int p1] (setC σ h) (xoi o) (setC σ' h)) ∧ (∀ E, o = .inr E → E = eIAE) ∧ (∀ h, okM h → XEx l m_X14_objects 22 7 114 [.ref 5000, .int p0, .int p1] (setM z τ h) (some (.int v)) (setM z' τ' h)) ∧ LI τ' σ' ∧ (τ' 5000 0 = lw_k [eIAE] o ∧ ∀ w, o = .inl w → w = v)
def IF_most (l : Launch) (LI : XS9 → XS9 → Prop) : Prop := ∀ (z : Int64) (τ σ : XS9) (p0 p1 : Int32), LI τ σ → ∃ (o : Int32 ⊕ String) (σ' : XS9) (v : Int32) (z' : Int64) (τ' : XS9), (∀ h, okC h → XEo l m_X7_most 7 1 6 [.ref 1000, .int p0, .int p1] (setC σ h) (xoi o) (setC σ' h)) ∧ (∀ E, o = .inr E → E = eIOB) ∧ (∀ h, okM h → XEx l m_X14_most 5 0 0 [.ref 5000, .int p0, .int p1] (setM z τ h) (some (.int v)) (setM z' τ' h)) ∧ LI τ' σ' ∧ (τ' 5000 0 = lw_k [eIOB] o ∧ ∀ w, o = .inl w → w = v)
def IF_contradicts (l : Launch) (LI : XS9 → XS9 → Prop) : Prop := ∀ (z : Int64) (τ σ : XS9) (p0 : Int32), LI τ σ → ∃ (o : Int32 ⊕ String) (σ' : XS9) (v : Int32) (z' : Int64) (τ' : XS9), (∀ h, okC h → XEo l m_X7_contradicts 7 1 6 [.ref 1000, .int p0] (setC σ h) (xoi o) (setC σ' h)) ∧ (∀ E, o = .inr E → E = eIOB) ∧ (∀ h, okM h → XEx l m_X14_contradicts 4 0 0 [.ref 5000, .int p0] (setM z τ h) (some (.int v)) (setM z' τ' h)) ∧ LI τ' σ' ∧ (τ' 5000 0 = lw_k [eIOB] o ∧ ∀ w, o = .inl w → w = v)
def IF_anew (l : Launch) (LI : XS9 → XS9 → Prop) : Prop := ∀ (z : Int64) (τ σ : XS9) (p0 p1 p2 p3 : Int32), LI τ σ → ∃ (o : Int32 ⊕ String) (σ' : XS9) (v : Int32) (z' : Int64) (τ' : XS9), (∀ h, okC h → XEo l m_X7_anew 7 1 6 [.ref 1000, .int p0, .int p1, .int p2, .int p3] (setC σ h) (xoi o) (setC σ' h)) ∧ (∀ E, o = .inr E → E = eIOB ∨ E = eIAE) ∧ (∀ h, okM h → XEx l m_X14_anew 11 490 8638 [.ref 5000, .int p0, .int p1, .int p2, .int p3] (setM z τ h) (some (.int v)) (setM z' τ' h)) ∧ LI τ' σ' ∧ (τ' 5000 0 = lw_k [eIOB, eIAE] o ∧ ∀ w, o = .inl w → w = v)
theorem lw_cmp (x : Int64) : lg_cmp x x = 0 := by unfold lg_cmp; simp
abbrev m_L_law : XM := (yL_law, cL_law, 7, ret, RL, 1)
theorem lc_0 {Y : XY} {l : Launch} {h0 : XH} {xs : Nat → Int32} {len i : Nat} {n : Int64} {s : Option (Nat × (Nat → Value))} {z : Int64} {τ σ : XS9} {LI : XS9 → XS9 → Prop} (O : xx_O Y m_L_law l 40) (hl : l.stackTraces = false) (hB : okB h0) (h11 : h0 11 = some (100, len, fun j => .int (xs j))) (hi : 5 * i + 5 ≤ len) (hlen : len ≤ 2560) (hI : LI τ σ) (hif : IF_region l LI) {k9 n9 : Nat} (kk : ∀ z τ σ n, LI τ σ → SW Y k9 n9 (hL h0 z τ σ n s) 2654 [.ref 11, .ref 1000, .ref 5000, .ref 4500, .int (nI (5 * i)), xx_d, xx_d] []) : SW Y (k9 + 700) (n9 + 10000) (hL h0 z τ σ n s) 204 [.ref 11, .ref 1000, .ref 5000, .ref 4500, .int (nI (5 * i)), xx_d, xx_d] [] := by
  obtain ⟨kT, ekT⟩ : ∃ q, q = k9 + 700 := ⟨_, rfl⟩
  obtain ⟨nT, enT⟩ : ∃ q, q = n9 + 10000 := ⟨_, rfl⟩
  refine xx_wid (k' := kT) (n' := nT) (by omega) (by omega) ?_
  obtain ⟨o, σ', v, z', τ', hC, hE, hM, hI', hT, hV⟩ := hif z τ σ (xs (5 * i + 1)) (xs (5 * i + 2)) (xs (5 * i + 3)) hI
  refine sw_aload_n O (xx_dt dd_L_law_0 26 rfl) rfl ?_
  refine sw_aload_n O (xx_dt dd_L_law_0 27 rfl) rfl ?_
  refine sw_iload O (xx_dt dd_L_law_0 28 rfl) rfl ?_
  refine sw_iconst (x := 1) O (xx_dt dd_L_law_0 29 rfl) (by decide) ?_
  refine sw_iadd O (xx_dt dd_L_law_0 30 rfl) ?_
  rw [show nI (5 * i) + 1 = nI (5 * i + 1) from nI_plus (5 * i) 1]
  refine sw_iaload (v := .int (xs (5 * i + 1))) O (xx_dt dd_L_law_0 31 rfl) ((hL_lo (by omega)).trans h11) (pk_in (5 * i + 1) _ (by omega)) (by rw [nI_clamp (by omega)]) ?_
  refine sw_aload_n O (xx_dt dd_L_law_0 32 rfl) rfl ?_
  refine sw_iload O (xx_dt dd_L_law_0 33 rfl) rfl ?_
  refine sw_iconst (x := 2) O (xx_dt dd_L_law_0 34 rfl) (by decide) ?_
  refine sw_iadd O (xx_dt dd_L_law_0 35 rfl) ?_
  rw [show nI (5 * i) + 2 = nI (5 * i + 2) from nI_plus (5 * i) 2]
  refine sw_iaload (v := .int (xs (5 * i + 2))) O (xx_dt dd_L_law_0 36 rfl) ((hL_lo (by omega)).trans h11) (pk_in (5 * i + 2) _ (by omega)) (by rw [nI_clamp (by omega)]) ?_
  refine sw_aload_n O (xx_dt dd_L_law_0 37 rfl) rfl ?_
  refine sw_iload O (xx_dt dd_L_law_0 38 rfl) rfl ?_
  refine sw_iconst (x := 3) O (xx_dt dd_L_law_0 39 rfl) (by decide) ?_
  refine sw_iadd O (xx_dt dd_L_law_0 40 rfl) ?_
  rw [show nI (5 * i) + 3 = nI (5 * i + 3) from nI_plus (5 * i) 3]
  refine sw_iaload (v := .int (xs (5 * i + 3))) O (xx_dt dd_L_law_0 41 rfl) ((hL_lo (by omega)).trans h11) (pk_in (5 * i + 3) _ (by omega)) (by rw [nI_clamp (by omega)]) ?_
  refine sw_aload_n O (xx_dt dd_L_law_0 42 rfl) rfl ?_
  rw [hL_c]
  refine xx_wid (k' := (k9 + 699) + 1) (n' := (n9 + 9994) + 6) (by omega) (by omega) (sw_callSH (k := k9 + 699) (n := n9 + 9994) (k' := 1) (n' := 6) (as := [.ref 1000, .int (xs (5 * i + 1)), .int (xs (5 * i + 2)), .int (xs (5 * i + 3)), .ref 4500]) (st := []) (st2 := [.int (lw_k [eIAE, eISE] o)]) O (lw_region hl (hC _ ⟨h0, z, τ, n, s, hB, rfl⟩) (ly_1000 σ _) (F := fO n (sO s)) ((setC_out (by omega)).trans ((setM_out (by omega)).trans hO_4500)) hE) ch_L_region mk_L_141 st_L_region (xx_dt dd_L_law_0 43 rfl) (by decide) rfl rfl (Nat.le_of_ble_eq_true rfl) rfl ?_)
  rw [lw_g_e]
  refine sw_istore (ls2 := [.ref 11, .ref 1000, .ref 5000, .ref 4500, .int (nI (5 * i)), .int (lw_k [eIAE, eISE] o), xx_d]) O (xx_dt dd_L_law_0 44 rfl) (by decide) rfl ?_
  obtain ⟨kT, ekT⟩ : ∃ q, q = k9 + 699 := ⟨_, rfl⟩
  obtain ⟨nT, enT⟩ : ∃ q, q = n9 + 9994 := ⟨_, rfl⟩
  refine xx_wid (k' := kT) (n' := nT) (by omega) (by omega) ?_
  show SW Y _ _ (setM z τ (setC σ' (hO h0 (lw_n n o Int32.toInt64) s))) 229 [.ref 11, .ref 1000, .ref 5000, .ref 4500, .int (nI (5 * i)), .int (lw_k [eIAE, eISE] o), xx_d] []
  refine sw_aload_n O (xx_dt dd_L_law_0 45 rfl) rfl ?_
  refine sw_aload_n O (xx_dt dd_L_law_0 46 rfl) rfl ?_
  refine sw_iload O (xx_dt dd_L_law_0 47 rfl) rfl ?_
  refine sw_iconst (x := 1) O (xx_dt dd_L_law_0 48 rfl) (by decide) ?_
  refine sw_iadd O (xx_dt dd_L_law_0 49 rfl) ?_
  rw [show nI (5 * i) + 1 = nI (5 * i + 1) from nI_plus (5 * i) 1]
  refine sw_iaload (v := .int (xs (5 * i + 1))) O (xx_dt dd_L_law_0 50 rfl) ((setM_out (by omega)).trans ((setC_out (by omega)).trans ((hO_o (by omega) (by omega) (by omega)).trans h11))) (pk_in (5 * i + 1) _ (by omega)) (by rw [nI_clamp (by omega)]) ?_
  refine sw_aload_n O (xx_dt dd_L_law_0 51 rfl) rfl ?_
  refine sw_iload O (xx_dt dd_L_law_0 52 rfl) rfl ?_
  refine sw_iconst (x := 2) O (xx_dt dd_L_law_0 53 rfl) (by decide) ?_
  refine sw_iadd O (xx_dt dd_L_law_0 54 rfl) ?_
  rw [show nI (5 * i) + 2 = nI (5 * i + 2) from nI_plus (5 * i) 2]
  refine sw_iaload (v := .int (xs (5 * i + 2))) O (xx_dt dd_L_law_0 55 rfl) ((setM_out (by omega)).trans ((setC_out (by omega)).trans ((hO_o (by omega) (by omega) (by omega)).trans h11))) (pk_in (5 * i + 2) _ (by omega)) (by rw [nI_clamp (by omega)]) ?_
  refine sw_aload_n O (xx_dt dd_L_law_0 56 rfl) rfl ?_
  refine sw_iload O (xx_dt dd_L_law_0 57 rfl) rfl ?_
  refine sw_iconst (x := 3) O (xx_dt dd_L_law_0 58 rfl) (by decide) ?_
  refine sw_iadd O (xx_dt dd_L_law_0 59 rfl) ?_
  rw [show nI (5 * i) + 3 = nI (5 * i + 3) from nI_plus (5 * i) 3]
  refine sw_iaload (v := .int (xs (5 * i + 3))) O (xx_dt dd_L_law_1 0 rfl) ((setM_out (by omega)).trans ((setC_out (by omega)).trans ((hO_o (by omega) (by omega) (by omega)).trans h11))) (pk_in (5 * i + 3) _ (by omega)) (by rw [nI_clamp (by omega)]) ?_
  refine xx_wid (k' := (k9 + 697) + 2) (n' := (n9 + 9972) + 22) (by omega) (by omega) (sw_callVx (k := k9 + 697) (n := n9 + 9972) (k' := 2) (n' := 22) (as := [.int (xs (5 * i + 1)), .int (xs (5 * i + 2)), .int (xs (5 * i + 3))]) (st := []) (st2 := [.int v]) O (hM _ ⟨h0, σ', _, s, hB, rfl⟩) ce_X14_region ml_L_146 iv_X14_region cl_X14 rfl lm_mod (xx_dt dd_L_law_1 1 rfl) (by decide) rfl rfl (Nat.le_of_ble_eq_true rfl) rfl ?_)
  refine sw_istore (ls2 := [.ref 11, .ref 1000, .ref 5000, .ref 4500, .int (nI (5 * i)), .int (lw_k [eIAE, eISE] o), .int v]) O (xx_dt dd_L_law_1 2 rfl) (by decide) rfl ?_
  refine sw_aload_n O (xx_dt dd_L_law_1 3 rfl) rfl ?_
  obtain ⟨kT, ekT⟩ : ∃ q, q = k9 + 697 := ⟨_, rfl⟩
  obtain ⟨nT, enT⟩ : ∃ q, q = n9 + 9972 := ⟨_, rfl⟩
  refine xx_wid (k' := kT) (n' := nT) (by omega) (by omega) ?_
  refine sw_callVx (as := []) (st := []) (st2 := [.int (f_Mthrown τ')]) O (ct_X14_thrown hl (okM.bs ⟨h0, σ', _, s, hB, rfl⟩)) ce_X14_thrown ml_L_147 iv_X14_thrown cl_X14 rfl lm_mod (xx_dt dd_L_law_1 4 rfl) (by decide) rfl rfl (Nat.le_of_ble_eq_true rfl) rfl ?_
  refine sw_iload O (xx_dt dd_L_law_1 5 rfl) rfl ?_
  refine sw_icmp_eq (tgt := 264) O (xx_dt dd_L_law_1 6 rfl) (by decide) (fun _ => ?_) (fun q9 => absurd (show f_Mthrown τ' = _ from hT) q9)
  refine sw_iload O (xx_dt dd_L_law_1 9 rfl) rfl ?_
  cases o with
  | inr E =>
    refine sw_if_ne (tgt := 282) O (xx_dt dd_L_law_1 10 rfl) (by decide) (fun _ => ?_) (fun q9 => ?_)
    · refine sw_goto (tgt := 2654) O (xx_dt dd_L_law_1 19 rfl) (by decide) ?_
      refine sw_dum (ls2 := [.ref 11, .ref 1000, .ref 5000, .ref 4500, .int (nI (5 * i)), xx_d, xx_d]) ⟨.inr rfl, .inr rfl, .inr rfl, .inr rfl, .inr rfl, .inl rfl, .inl rfl, trivial⟩ ?_
      refine xx_wid (k' := k9) (n' := n9) (by omega) (by omega) ?_
      exact kk z' τ' σ' _ hI'
    · exfalso
      rcases hE E rfl with rfl | rfl
      · revert q9; decide
      · revert q9; decide
  | inl w =>
    obtain rfl := hV w rfl
    refine sw_if_ne (tgt := 282) O (xx_dt dd_L_law_1 10 rfl) (by decide) (fun q9 => absurd rfl q9) (fun _ => ?_)
    refine sw_aload_n O (xx_dt dd_L_law_1 11 rfl) rfl ?_
    refine sw_get (v := .long (Int32.toInt64 w)) O (xx_dt dd_L_law_1 12 rfl) cl_X8 fl_L_13 ((setM_out (by omega)).trans ((setC_out (by omega)).trans hO_4500)) (by decide) rfl ?_
    refine sw_iload O (xx_dt dd_L_law_1 13 rfl) rfl ?_
    refine sw_i2l O (xx_dt dd_L_law_1 14 rfl) ?_
    refine sw_lcmp O (xx_dt dd_L_law_1 15 rfl) ?_
    refine sw_if_eq (tgt := 282) O (xx_dt dd_L_law_1 16 rfl) (by decide) (fun _ => ?_) (fun q9 => absurd (lw_cmp _) q9)
    refine sw_goto (tgt := 2654) O (xx_dt dd_L_law_1 19 rfl) (by decide) ?_
    refine sw_dum (ls2 := [.ref 11, .ref 1000, .ref 5000, .ref 4500, .int (nI (5 * i)), xx_d, xx_d]) ⟨.inr rfl, .inr rfl, .inr rfl, .inr rfl, .inr rfl, .inl rfl, .inl rfl, trivial⟩ ?_
    refine xx_wid (k' := k9) (n' := n9) (by omega) (by omega) ?_
    exact kk z' τ' σ' _ hI'
theorem lc_1 {Y : XY} {l : Launch} {h0 : XH} {xs : Nat → Int32} {len i : Nat} {n : Int64} {s : Option (Nat × (Nat → Value))} {z : Int64} {τ σ : XS9} {LI : XS9 → XS9 → Prop} (O : xx_O Y m_L_law l 40) (hl : l.stackTraces = false) (hB : okB h0) (h11 : h0 11 = some (100, len, fun j => .int (xs j))) (hi : 5 * i + 5 ≤ len) (hlen : len ≤ 2560) (hI : LI τ σ) (hif : IF_border l LI) {k9 n9 : Nat} (kk : ∀ z τ σ n, LI τ σ → SW Y k9 n9 (hL h0 z τ σ n s) 2654 [.ref 11, .ref 1000, .ref 5000, .ref 4500, .int (nI (5 * i)), xx_d, xx_d] []) : SW Y (k9 + 700) (n9 + 10000) (hL h0 z τ σ n s) 285 [.ref 11, .ref 1000, .ref 5000, .ref 4500, .int (nI (5 * i)), xx_d, xx_d] [] := by
  obtain ⟨kT, ekT⟩ : ∃ q, q = k9 + 700 := ⟨_, rfl⟩
  obtain ⟨nT, enT⟩ : ∃ q, q = n9 + 10000 := ⟨_, rfl⟩
  refine xx_wid (k' := kT) (n' := nT) (by omega) (by omega) ?_
  obtain ⟨o, σ', v, z', τ', hC, hE, hM, hI', hT, hV⟩ := hif z τ σ (xs (5 * i + 1)) (xs (5 * i + 2)) hI
  refine sw_aload_n O (xx_dt dd_L_law_1 20 rfl) rfl ?_
  refine sw_aload_n O (xx_dt dd_L_law_1 21 rfl) rfl ?_
  refine sw_iload O (xx_dt dd_L_law_1 22 rfl) rfl ?_
  refine sw_iconst (x := 1) O (xx_dt dd_L_law_1 23 rfl) (by decide) ?_
  refine sw_iadd O (xx_dt dd_L_law_1 24 rfl) ?_
  rw [show nI (5 * i) + 1 = nI (5 * i + 1) from nI_plus (5 * i) 1]
  refine sw_iaload (v := .int (xs (5 * i + 1))) O (xx_dt dd_L_law_1 25 rfl) ((hL_lo (by omega)).trans h11) (pk_in (5 * i + 1) _ (by omega)) (by rw [nI_clamp (by omega)]) ?_
  refine sw_aload_n O (xx_dt dd_L_law_1 26 rfl) rfl ?_
  refine sw_iload O (xx_dt dd_L_law_1 27 rfl) rfl ?_
  refine sw_iconst (x := 2) O (xx_dt dd_L_law_1 28 rfl) (by decide) ?_
  refine sw_iadd O (xx_dt dd_L_law_1 29 rfl) ?_
  rw [show nI (5 * i) + 2 = nI (5 * i + 2) from nI_plus (5 * i) 2]
  refine sw_iaload (v := .int (xs (5 * i + 2))) O (xx_dt dd_L_law_1 30 rfl) ((hL_lo (by omega)).trans h11) (pk_in (5 * i + 2) _ (by omega)) (by rw [nI_clamp (by omega)]) ?_
  refine sw_aload_n O (xx_dt dd_L_law_1 31 rfl) rfl ?_
  rw [hL_c]
  refine xx_wid (k' := (k9 + 699) + 1) (n' := (n9 + 9994) + 6) (by omega) (by omega) (sw_callSH (k := k9 + 699) (n := n9 + 9994) (k' := 1) (n' := 6) (as := [.ref 1000, .int (xs (5 * i + 1)), .int (xs (5 * i + 2)), .ref 4500]) (st := []) (st2 := [.int (lw_k [eIOB, eIAE, eISE] o)]) O (lw_border hl (hC _ ⟨h0, z, τ, n, s, hB, rfl⟩) (ly_1000 σ _) (F := fO n (sO s)) ((setC_out (by omega)).trans ((setM_out (by omega)).trans hO_4500)) hE) ch_L_border mk_L_150 st_L_border (xx_dt dd_L_law_1 32 rfl) (by decide) rfl rfl (Nat.le_of_ble_eq_true rfl) rfl ?_)
  rw [lw_g_e]
  refine sw_istore (ls2 := [.ref 11, .ref 1000, .ref 5000, .ref 4500, .int (nI (5 * i)), .int (lw_k [eIOB, eIAE, eISE] o), xx_d]) O (xx_dt dd_L_law_1 33 rfl) (by decide) rfl ?_
  obtain ⟨kT, ekT⟩ : ∃ q, q = k9 + 699 := ⟨_, rfl⟩
  obtain ⟨nT, enT⟩ : ∃ q, q = n9 + 9994 := ⟨_, rfl⟩
  refine xx_wid (k' := kT) (n' := nT) (by omega) (by omega) ?_
  show SW Y _ _ (setM z τ (setC σ' (hO h0 (lw_n n o Int32.toInt64) s))) 304 [.ref 11, .ref 1000, .ref 5000, .ref 4500, .int (nI (5 * i)), .int (lw_k [eIOB, eIAE, eISE] o), xx_d] []
  refine sw_aload_n O (xx_dt dd_L_law_1 34 rfl) rfl ?_
  refine sw_aload_n O (xx_dt dd_L_law_1 35 rfl) rfl ?_
  refine sw_iload O (xx_dt dd_L_law_1 36 rfl) rfl ?_
  refine sw_iconst (x := 1) O (xx_dt dd_L_law_1 37 rfl) (by decide) ?_
  refine sw_iadd O (xx_dt dd_L_law_1 38 rfl) ?_
  rw [show nI (5 * i) + 1 = nI (5 * i + 1) from nI_plus (5 * i) 1]
  refine sw_iaload (v := .int (xs (5 * i + 1))) O (xx_dt dd_L_law_1 39 rfl) ((setM_out (by omega)).trans ((setC_out (by omega)).trans ((hO_o (by omega) (by omega) (by omega)).trans h11))) (pk_in (5 * i + 1) _ (by omega)) (by rw [nI_clamp (by omega)]) ?_
  refine sw_aload_n O (xx_dt dd_L_law_1 40 rfl) rfl ?_
  refine sw_iload O (xx_dt dd_L_law_1 41 rfl) rfl ?_
  refine sw_iconst (x := 2) O (xx_dt dd_L_law_1 42 rfl) (by decide) ?_
  refine sw_iadd O (xx_dt dd_L_law_1 43 rfl) ?_
  rw [show nI (5 * i) + 2 = nI (5 * i + 2) from nI_plus (5 * i) 2]
  refine sw_iaload (v := .int (xs (5 * i + 2))) O (xx_dt dd_L_law_1 44 rfl) ((setM_out (by omega)).trans ((setC_out (by omega)).trans ((hO_o (by omega) (by omega) (by omega)).trans h11))) (pk_in (5 * i + 2) _ (by omega)) (by rw [nI_clamp (by omega)]) ?_
  refine xx_wid (k' := (k9 + 698) + 1) (n' := (n9 + 9990) + 4) (by omega) (by omega) (sw_callVx (k := k9 + 698) (n := n9 + 9990) (k' := 1) (n' := 4) (as := [.int (xs (5 * i + 1)), .int (xs (5 * i + 2))]) (st := []) (st2 := [.int v]) O (hM _ ⟨h0, σ', _, s, hB, rfl⟩) ce_X14_border ml_L_153 iv_X14_border cl_X14 rfl lm_mod (xx_dt dd_L_law_1 45 rfl) (by decide) rfl rfl (Nat.le_of_ble_eq_true rfl) rfl ?_)
  refine sw_istore (ls2 := [.ref 11, .ref 1000, .ref 5000, .ref 4500, .int (nI (5 * i)), .int (lw_k [eIOB, eIAE, eISE] o), .int v]) O (xx_dt dd_L_law_1 46 rfl) (by decide) rfl ?_
  refine sw_aload_n O (xx_dt dd_L_law_1 47 rfl) rfl ?_
  obtain ⟨kT, ekT⟩ : ∃ q, q = k9 + 698 := ⟨_, rfl⟩
  obtain ⟨nT, enT⟩ : ∃ q, q = n9 + 9990 := ⟨_, rfl⟩
  refine xx_wid (k' := kT) (n' := nT) (by omega) (by omega) ?_
  refine sw_callVx (as := []) (st := []) (st2 := [.int (f_Mthrown τ')]) O (ct_X14_thrown hl (okM.bs ⟨h0, σ', _, s, hB, rfl⟩)) ce_X14_thrown ml_L_147 iv_X14_thrown cl_X14 rfl lm_mod (xx_dt dd_L_law_1 48 rfl) (by decide) rfl rfl (Nat.le_of_ble_eq_true rfl) rfl ?_
  refine sw_iload O (xx_dt dd_L_law_1 49 rfl) rfl ?_
  refine sw_icmp_eq (tgt := 333) O (xx_dt dd_L_law_1 50 rfl) (by decide) (fun _ => ?_) (fun q9 => absurd (show f_Mthrown τ' = _ from hT) q9)
  refine sw_iload O (xx_dt dd_L_law_1 53 rfl) rfl ?_
  cases o with
  | inr E =>
    refine sw_if_ne (tgt := 351) O (xx_dt dd_L_law_1 54 rfl) (by decide) (fun _ => ?_) (fun q9 => ?_)
    · refine sw_goto (tgt := 2654) O (xx_dt dd_L_law_2 3 rfl) (by decide) ?_
      refine sw_dum (ls2 := [.ref 11, .ref 1000, .ref 5000, .ref 4500, .int (nI (5 * i)), xx_d, xx_d]) ⟨.inr rfl, .inr rfl, .inr rfl, .inr rfl, .inr rfl, .inl rfl, .inl rfl, trivial⟩ ?_
      refine xx_wid (k' := k9) (n' := n9) (by omega) (by omega) ?_
      exact kk z' τ' σ' _ hI'
    · exfalso
      rcases hE E rfl with rfl | rfl | rfl
      · revert q9; decide
      · revert q9; decide
      · revert q9; decide
  | inl w =>
    obtain rfl := hV w rfl
    refine sw_if_ne (tgt := 351) O (xx_dt dd_L_law_1 54 rfl) (by decide) (fun q9 => absurd rfl q9) (fun _ => ?_)
    refine sw_aload_n O (xx_dt dd_L_law_1 55 rfl) rfl ?_
    refine sw_get (v := .long (Int32.toInt64 w)) O (xx_dt dd_L_law_1 56 rfl) cl_X8 fl_L_13 ((setM_out (by omega)).trans ((setC_out (by omega)).trans hO_4500)) (by decide) rfl ?_
    refine sw_iload O (xx_dt dd_L_law_1 57 rfl) rfl ?_
    refine sw_i2l O (xx_dt dd_L_law_1 58 rfl) ?_
    refine sw_lcmp O (xx_dt dd_L_law_1 59 rfl) ?_
    refine sw_if_eq (tgt := 351) O (xx_dt dd_L_law_2 0 rfl) (by decide) (fun _ => ?_) (fun q9 => absurd (lw_cmp _) q9)
    refine sw_goto (tgt := 2654) O (xx_dt dd_L_law_2 3 rfl) (by decide) ?_
    refine sw_dum (ls2 := [.ref 11, .ref 1000, .ref 5000, .ref 4500, .int (nI (5 * i)), xx_d, xx_d]) ⟨.inr rfl, .inr rfl, .inr rfl, .inr rfl, .inr rfl, .inl rfl, .inl rfl, trivial⟩ ?_
    refine xx_wid (k' := k9) (n' := n9) (by omega) (by omega) ?_
    exact kk z' τ' σ' _ hI'
theorem lc_2 {Y : XY} {l : Launch} {h0 : XH} {xs : Nat → Int32} {len i : Nat} {n : Int64} {s : Option (Nat × (Nat → Value))} {z : Int64} {τ σ : XS9} {LI : XS9 → XS9 → Prop} (O : xx_O Y m_L_law l 40) (hl : l.stackTraces = false) (hB : okB h0) (h11 : h0 11 = some (100, len, fun j => .int (xs j))) (hi : 5 * i + 5 ≤ len) (hlen : len ≤ 2560) (hI : LI τ σ) (hif : IF_bidder l LI) {k9 n9 : Nat} (kk : ∀ z τ σ n, LI τ σ → SW Y k9 n9 (hL h0 z τ σ n s) 2654 [.ref 11, .ref 1000, .ref 5000, .ref 4500, .int (nI (5 * i)), xx_d, xx_d] []) : SW Y (k9 + 700) (n9 + 10000) (hL h0 z τ σ n s) 354 [.ref 11, .ref 1000, .ref 5000, .ref 4500, .int (nI (5 * i)), xx_d, xx_d] [] := by
  obtain ⟨kT, ekT⟩ : ∃ q, q = k9 + 700 := ⟨_, rfl⟩
  obtain ⟨nT, enT⟩ : ∃ q, q = n9 + 10000 := ⟨_, rfl⟩
  refine xx_wid (k' := kT) (n' := nT) (by omega) (by omega) ?_
  obtain ⟨o, σ', v, z', τ', hC, hE, hM, hI', hT, hV⟩ := hif z τ σ (xs (5 * i + 1)) (xs (5 * i + 2)) (xs (5 * i + 3)) (xs (5 * i + 4)) hI
  refine sw_aload_n O (xx_dt dd_L_law_2 4 rfl) rfl ?_
  refine sw_aload_n O (xx_dt dd_L_law_2 5 rfl) rfl ?_
  refine sw_iload O (xx_dt dd_L_law_2 6 rfl) rfl ?_
  refine sw_iconst (x := 1) O (xx_dt dd_L_law_2 7 rfl) (by decide) ?_
  refine sw_iadd O (xx_dt dd_L_law_2 8 rfl) ?_
  rw [show nI (5 * i) + 1 = nI (5 * i + 1) from nI_plus (5 * i) 1]
  refine sw_iaload (v := .int (xs (5 * i + 1))) O (xx_dt dd_L_law_2 9 rfl) ((hL_lo (by omega)).trans h11) (pk_in (5 * i + 1) _ (by omega)) (by rw [nI_clamp (by omega)]) ?_
  refine sw_aload_n O (xx_dt dd_L_law_2 10 rfl) rfl ?_
  refine sw_iload O (xx_dt dd_L_law_2 11 rfl) rfl ?_
  refine sw_iconst (x := 2) O (xx_dt dd_L_law_2 12 rfl) (by decide) ?_
  refine sw_iadd O (xx_dt dd_L_law_2 13 rfl) ?_
  rw [show nI (5 * i) + 2 = nI (5 * i + 2) from nI_plus (5 * i) 2]
  refine sw_iaload (v := .int (xs (5 * i + 2))) O (xx_dt dd_L_law_2 14 rfl) ((hL_lo (by omega)).trans h11) (pk_in (5 * i + 2) _ (by omega)) (by rw [nI_clamp (by omega)]) ?_
  refine sw_aload_n O (xx_dt dd_L_law_2 15 rfl) rfl ?_
  refine sw_iload O (xx_dt dd_L_law_2 16 rfl) rfl ?_
  refine sw_iconst (x := 3) O (xx_dt dd_L_law_2 17 rfl) (by decide) ?_
  refine sw_iadd O (xx_dt dd_L_law_2 18 rfl) ?_
  rw [show nI (5 * i) + 3 = nI (5 * i + 3) from nI_plus (5 * i) 3]
  refine sw_iaload (v := .int (xs (5 * i + 3))) O (xx_dt dd_L_law_2 19 rfl) ((hL_lo (by omega)).trans h11) (pk_in (5 * i + 3) _ (by omega)) (by rw [nI_clamp (by omega)]) ?_
  refine sw_aload_n O (xx_dt dd_L_law_2 20 rfl) rfl ?_
  refine sw_iload O (xx_dt dd_L_law_2 21 rfl) rfl ?_
  refine sw_iconst (x := 4) O (xx_dt dd_L_law_2 22 rfl) (by decide) ?_
  refine sw_iadd O (xx_dt dd_L_law_2 23 rfl) ?_
  rw [show nI (5 * i) + 4 = nI (5 * i + 4) from nI_plus (5 * i) 4]
  refine sw_iaload (v := .int (xs (5 * i + 4))) O (xx_dt dd_L_law_2 24 rfl) ((hL_lo (by omega)).trans h11) (pk_in (5 * i + 4) _ (by omega)) (by rw [nI_clamp (by omega)]) ?_
  refine sw_aload_n O (xx_dt dd_L_law_2 25 rfl) rfl ?_
  rw [hL_c]
  refine xx_wid (k' := (k9 + 699) + 1) (n' := (n9 + 9994) + 6) (by omega) (by omega) (sw_callSH (k := k9 + 699) (n := n9 + 9994) (k' := 1) (n' := 6) (as := [.ref 1000, .int (xs (5 * i + 1)), .int (xs (5 * i + 2)), .int (xs (5 * i + 3)), .int (xs (5 * i + 4)), .ref 4500]) (st := []) (st2 := [.int (lw_k [eIAE, eISE] o)]) O (lw_bidder hl (hC _ ⟨h0, z, τ, n, s, hB, rfl⟩) (ly_1000 σ _) (F := fO n (sO s)) ((setC_out (by omega)).trans ((setM_out (by omega)).trans hO_4500)) hE) ch_L_bidder mk_L_154 st_L_bidder (xx_dt dd_L_law_2 26 rfl) (by decide) rfl rfl (Nat.le_of_ble_eq_true rfl) rfl ?_)
  rw [lw_g_e]
  refine sw_istore (ls2 := [.ref 11, .ref 1000, .ref 5000, .ref 4500, .int (nI (5 * i)), .int (lw_k [eIAE, eISE] o), xx_d]) O (xx_dt dd_L_law_2 27 rfl) (by decide) rfl ?_
  obtain ⟨kT, ekT⟩ : ∃ q, q = k9 + 699 := ⟨_, rfl⟩
  obtain ⟨nT, enT⟩ : ∃ q, q = n9 + 9994 := ⟨_, rfl⟩
  refine xx_wid (k' := kT) (n' := nT) (by omega) (by omega) ?_
  show SW Y _ _ (setM z τ (setC σ' (hO h0 (lw_n n o Int32.toInt64) s))) 385 [.ref 11, .ref 1000, .ref 5000, .ref 4500, .int (nI (5 * i)), .int (lw_k [eIAE, eISE] o), xx_d] []
  refine sw_aload_n O (xx_dt dd_L_law_2 28 rfl) rfl ?_
  refine sw_aload_n O (xx_dt dd_L_law_2 29 rfl) rfl ?_
  refine sw_iload O (xx_dt dd_L_law_2 30 rfl) rfl ?_
  refine sw_iconst (x := 1) O (xx_dt dd_L_law_2 31 rfl) (by decide) ?_
  refine sw_iadd O (xx_dt dd_L_law_2 32 rfl) ?_
  rw [show nI (5 * i) + 1 = nI (5 * i + 1) from nI_plus (5 * i) 1]
  refine sw_iaload (v := .int (xs (5 * i + 1))) O (xx_dt dd_L_law_2 33 rfl) ((setM_out (by omega)).trans ((setC_out (by omega)).trans ((hO_o (by omega) (by omega) (by omega)).trans h11))) (pk_in (5 * i + 1) _ (by omega)) (by rw [nI_clamp (by omega)]) ?_
  refine sw_aload_n O (xx_dt dd_L_law_2 34 rfl) rfl ?_
  refine sw_iload O (xx_dt dd_L_law_2 35 rfl) rfl ?_
  refine sw_iconst (x := 2) O (xx_dt dd_L_law_2 36 rfl) (by decide) ?_
  refine sw_iadd O (xx_dt dd_L_law_2 37 rfl) ?_
  rw [show nI (5 * i) + 2 = nI (5 * i + 2) from nI_plus (5 * i) 2]
  refine sw_iaload (v := .int (xs (5 * i + 2))) O (xx_dt dd_L_law_2 38 rfl) ((setM_out (by omega)).trans ((setC_out (by omega)).trans ((hO_o (by omega) (by omega) (by omega)).trans h11))) (pk_in (5 * i + 2) _ (by omega)) (by rw [nI_clamp (by omega)]) ?_
  refine sw_aload_n O (xx_dt dd_L_law_2 39 rfl) rfl ?_
  refine sw_iload O (xx_dt dd_L_law_2 40 rfl) rfl ?_
  refine sw_iconst (x := 3) O (xx_dt dd_L_law_2 41 rfl) (by decide) ?_
  refine sw_iadd O (xx_dt dd_L_law_2 42 rfl) ?_
  rw [show nI (5 * i) + 3 = nI (5 * i + 3) from nI_plus (5 * i) 3]
  refine sw_iaload (v := .int (xs (5 * i + 3))) O (xx_dt dd_L_law_2 43 rfl) ((setM_out (by omega)).trans ((setC_out (by omega)).trans ((hO_o (by omega) (by omega) (by omega)).trans h11))) (pk_in (5 * i + 3) _ (by omega)) (by rw [nI_clamp (by omega)]) ?_
  refine sw_aload_n O (xx_dt dd_L_law_2 44 rfl) rfl ?_
  refine sw_iload O (xx_dt dd_L_law_2 45 rfl) rfl ?_
  refine sw_iconst (x := 4) O (xx_dt dd_L_law_2 46 rfl) (by decide) ?_
  refine sw_iadd O (xx_dt dd_L_law_2 47 rfl) ?_
  rw [show nI (5 * i) + 4 = nI (5 * i + 4) from nI_plus (5 * i) 4]
  refine sw_iaload (v := .int (xs (5 * i + 4))) O (xx_dt dd_L_law_2 48 rfl) ((setM_out (by omega)).trans ((setC_out (by omega)).trans ((hO_o (by omega) (by omega) (by omega)).trans h11))) (pk_in (5 * i + 4) _ (by omega)) (by rw [nI_clamp (by omega)]) ?_
  refine xx_wid (k' := (k9 + 696) + 3) (n' := (n9 + 9967) + 27) (by omega) (by omega) (sw_callVx (k := k9 + 696) (n := n9 + 9967) (k' := 3) (n' := 27) (as := [.int (xs (5 * i + 1)), .int (xs (5 * i + 2)), .int (xs (5 * i + 3)), .int (xs (5 * i + 4))]) (st := []) (st2 := [.int v]) O (hM _ ⟨h0, σ', _, s, hB, rfl⟩) ce_X14_bidder ml_L_157 iv_X14_bidder cl_X14 rfl lm_mod (xx_dt dd_L_law_2 49 rfl) (by decide) rfl rfl (Nat.le_of_ble_eq_true rfl) rfl ?_)
  refine sw_istore (ls2 := [.ref 11, .ref 1000, .ref 5000, .ref 4500, .int (nI (5 * i)), .int (lw_k [eIAE, eISE] o), .int v]) O (xx_dt dd_L_law_2 50 rfl) (by decide) rfl ?_
  refine sw_aload_n O (xx_dt dd_L_law_2 51 rfl) rfl ?_
  obtain ⟨kT, ekT⟩ : ∃ q, q = k9 + 696 := ⟨_, rfl⟩
  obtain ⟨nT, enT⟩ : ∃ q, q = n9 + 9967 := ⟨_, rfl⟩
  refine xx_wid (k' := kT) (n' := nT) (by omega) (by omega) ?_
  refine sw_callVx (as := []) (st := []) (st2 := [.int (f_Mthrown τ')]) O (ct_X14_thrown hl (okM.bs ⟨h0, σ', _, s, hB, rfl⟩)) ce_X14_thrown ml_L_147 iv_X14_thrown cl_X14 rfl lm_mod (xx_dt dd_L_law_2 52 rfl) (by decide) rfl rfl (Nat.le_of_ble_eq_true rfl) rfl ?_
  refine sw_iload O (xx_dt dd_L_law_2 53 rfl) rfl ?_
  refine sw_icmp_eq (tgt := 426) O (xx_dt dd_L_law_2 54 rfl) (by decide) (fun _ => ?_) (fun q9 => absurd (show f_Mthrown τ' = _ from hT) q9)
  refine sw_iload O (xx_dt dd_L_law_2 57 rfl) rfl ?_
  cases o with
  | inr E =>
    refine sw_if_ne (tgt := 444) O (xx_dt dd_L_law_2 58 rfl) (by decide) (fun _ => ?_) (fun q9 => ?_)
    · refine sw_goto (tgt := 2654) O (xx_dt dd_L_law_3 7 rfl) (by decide) ?_
      refine sw_dum (ls2 := [.ref 11, .ref 1000, .ref 5000, .ref 4500, .int (nI (5 * i)), xx_d, xx_d]) ⟨.inr rfl, .inr rfl, .inr rfl, .inr rfl, .inr rfl, .inl rfl, .inl rfl, trivial⟩ ?_
      refine xx_wid (k' := k9) (n' := n9) (by omega) (by omega) ?_
      exact kk z' τ' σ' _ hI'
    · exfalso
      rcases hE E rfl with rfl | rfl
      · revert q9; decide
      · revert q9; decide
  | inl w =>
    obtain rfl := hV w rfl
    refine sw_if_ne (tgt := 444) O (xx_dt dd_L_law_2 58 rfl) (by decide) (fun q9 => absurd rfl q9) (fun _ => ?_)
    refine sw_aload_n O (xx_dt dd_L_law_2 59 rfl) rfl ?_
    refine sw_get (v := .long (Int32.toInt64 w)) O (xx_dt dd_L_law_3 0 rfl) cl_X8 fl_L_13 ((setM_out (by omega)).trans ((setC_out (by omega)).trans hO_4500)) (by decide) rfl ?_
    refine sw_iload O (xx_dt dd_L_law_3 1 rfl) rfl ?_
    refine sw_i2l O (xx_dt dd_L_law_3 2 rfl) ?_
    refine sw_lcmp O (xx_dt dd_L_law_3 3 rfl) ?_
    refine sw_if_eq (tgt := 444) O (xx_dt dd_L_law_3 4 rfl) (by decide) (fun _ => ?_) (fun q9 => absurd (lw_cmp _) q9)
    refine sw_goto (tgt := 2654) O (xx_dt dd_L_law_3 7 rfl) (by decide) ?_
    refine sw_dum (ls2 := [.ref 11, .ref 1000, .ref 5000, .ref 4500, .int (nI (5 * i)), xx_d, xx_d]) ⟨.inr rfl, .inr rfl, .inr rfl, .inr rfl, .inr rfl, .inl rfl, .inl rfl, trivial⟩ ?_
    refine xx_wid (k' := k9) (n' := n9) (by omega) (by omega) ?_
    exact kk z' τ' σ' _ hI'
theorem lc_3 {Y : XY} {l : Launch} {h0 : XH} {xs : Nat → Int32} {len i : Nat} {n : Int64} {s : Option (Nat × (Nat → Value))} {z : Int64} {τ σ : XS9} {LI : XS9 → XS9 → Prop} (O : xx_O Y m_L_law l 40) (hl : l.stackTraces = false) (hB : okB h0) (h11 : h0 11 = some (100, len, fun j => .int (xs j))) (hi : 5 * i + 5 ≤ len) (hlen : len ≤ 2560) (hI : LI τ σ) (hif : IF_rules l LI) {k9 n9 : Nat} (kk : ∀ z τ σ n, LI τ σ → SW Y k9 n9 (hL h0 z τ σ n s) 2654 [.ref 11, .ref 1000, .ref 5000, .ref 4500, .int (nI (5 * i)), xx_d, xx_d] []) : SW Y (k9 + 700) (n9 + 10000) (hL h0 z τ σ n s) 447 [.ref 11, .ref 1000, .ref 5000, .ref 4500, .int (nI (5 * i)), xx_d, xx_d] [] := by
  obtain ⟨kT, ekT⟩ : ∃ q, q = k9 + 700 := ⟨_, rfl⟩
  obtain ⟨nT, enT⟩ : ∃ q, q = n9 + 10000 := ⟨_, rfl⟩
  refine xx_wid (k' := kT) (n' := nT) (by omega) (by omega) ?_
  by_cases hb2 : xs (5 * i + 2) = 0
  · obtain ⟨o, σ', v, z', τ', hC, hE, hM, hI', hT, hV⟩ := hif z τ σ (xs (5 * i + 1)) (0) hI (.inl rfl)
    refine sw_aload_n O (xx_dt dd_L_law_3 8 rfl) rfl ?_
    refine sw_aload_n O (xx_dt dd_L_law_3 9 rfl) rfl ?_
    refine sw_iload O (xx_dt dd_L_law_3 10 rfl) rfl ?_
    refine sw_iconst (x := 1) O (xx_dt dd_L_law_3 11 rfl) (by decide) ?_
    refine sw_iadd O (xx_dt dd_L_law_3 12 rfl) ?_
    rw [show nI (5 * i) + 1 = nI (5 * i + 1) from nI_plus (5 * i) 1]
    refine sw_iaload (v := .int (xs (5 * i + 1))) O (xx_dt dd_L_law_3 13 rfl) ((hL_lo (by omega)).trans h11) (pk_in (5 * i + 1) _ (by omega)) (by rw [nI_clamp (by omega)]) ?_
    refine sw_aload_n O (xx_dt dd_L_law_3 14 rfl) rfl ?_
    refine sw_iload O (xx_dt dd_L_law_3 15 rfl) rfl ?_
    refine sw_iconst (x := 2) O (xx_dt dd_L_law_3 16 rfl) (by decide) ?_
    refine sw_iadd O (xx_dt dd_L_law_3 17 rfl) ?_
    rw [show nI (5 * i) + 2 = nI (5 * i + 2) from nI_plus (5 * i) 2]
    refine sw_iaload (v := .int (xs (5 * i + 2))) O (xx_dt dd_L_law_3 18 rfl) ((hL_lo (by omega)).trans h11) (pk_in (5 * i + 2) _ (by omega)) (by rw [nI_clamp (by omega)]) ?_
    refine sw_if_eq (tgt := 467) O (xx_dt dd_L_law_3 19 rfl) (by decide) (fun _ => ?_) (fun q9 => absurd hb2 q9)
    refine sw_iconst (x := 0) O (xx_dt dd_L_law_3 22 rfl) (by decide) ?_
    refine sw_aload_n O (xx_dt dd_L_law_3 23 rfl) rfl ?_
    rw [hL_c]
    refine xx_wid (k' := (k9 + 699) + 1) (n' := (n9 + 9994) + 6) (by omega) (by omega) (sw_callSH (k := k9 + 699) (n := n9 + 9994) (k' := 1) (n' := 6) (as := [.ref 1000, .int (xs (5 * i + 1)), .int 0, .ref 4500]) (st := []) (st2 := [.int (lw_k [eIAE, eISE] o)]) O (lw_rules hl (hC _ ⟨h0, z, τ, n, s, hB, rfl⟩) (ly_1000 σ _) (F := fO n (sO s)) ((setC_out (by omega)).trans ((setM_out (by omega)).trans hO_4500)) hE) ch_L_rules mk_L_158 st_L_rules (xx_dt dd_L_law_3 24 rfl) (by decide) rfl rfl (Nat.le_of_ble_eq_true rfl) rfl ?_)
    rw [lw_g_e]
    refine sw_istore (ls2 := [.ref 11, .ref 1000, .ref 5000, .ref 4500, .int (nI (5 * i)), .int (lw_k [eIAE, eISE] o), xx_d]) O (xx_dt dd_L_law_3 25 rfl) (by decide) rfl ?_
    obtain ⟨kT, ekT⟩ : ∃ q, q = k9 + 699 := ⟨_, rfl⟩
    obtain ⟨nT, enT⟩ : ∃ q, q = n9 + 9994 := ⟨_, rfl⟩
    refine xx_wid (k' := kT) (n' := nT) (by omega) (by omega) ?_
    show SW Y _ _ (setM z τ (setC σ' (hO h0 (lw_n n o Int32.toInt64) s))) 474 [.ref 11, .ref 1000, .ref 5000, .ref 4500, .int (nI (5 * i)), .int (lw_k [eIAE, eISE] o), xx_d] []
    refine sw_aload_n O (xx_dt dd_L_law_3 26 rfl) rfl ?_
    refine sw_aload_n O (xx_dt dd_L_law_3 27 rfl) rfl ?_
    refine sw_iload O (xx_dt dd_L_law_3 28 rfl) rfl ?_
    refine sw_iconst (x := 1) O (xx_dt dd_L_law_3 29 rfl) (by decide) ?_
    refine sw_iadd O (xx_dt dd_L_law_3 30 rfl) ?_
    rw [show nI (5 * i) + 1 = nI (5 * i + 1) from nI_plus (5 * i) 1]
    refine sw_iaload (v := .int (xs (5 * i + 1))) O (xx_dt dd_L_law_3 31 rfl) ((setM_out (by omega)).trans ((setC_out (by omega)).trans ((hO_o (by omega) (by omega) (by omega)).trans h11))) (pk_in (5 * i + 1) _ (by omega)) (by rw [nI_clamp (by omega)]) ?_
    refine sw_aload_n O (xx_dt dd_L_law_3 32 rfl) rfl ?_
    refine sw_iload O (xx_dt dd_L_law_3 33 rfl) rfl ?_
    refine sw_iconst (x := 2) O (xx_dt dd_L_law_3 34 rfl) (by decide) ?_
    refine sw_iadd O (xx_dt dd_L_law_3 35 rfl) ?_
    rw [show nI (5 * i) + 2 = nI (5 * i + 2) from nI_plus (5 * i) 2]
    refine sw_iaload (v := .int (xs (5 * i + 2))) O (xx_dt dd_L_law_3 36 rfl) ((setM_out (by omega)).trans ((setC_out (by omega)).trans ((hO_o (by omega) (by omega) (by omega)).trans h11))) (pk_in (5 * i + 2) _ (by omega)) (by rw [nI_clamp (by omega)]) ?_
    refine sw_if_eq (tgt := 494) O (xx_dt dd_L_law_3 37 rfl) (by decide) (fun _ => ?_) (fun q9 => absurd hb2 q9)
    refine sw_iconst (x := 0) O (xx_dt dd_L_law_3 40 rfl) (by decide) ?_
    refine xx_wid (k' := (k9 + 699) + 0) (n' := (n9 + 9994) + 0) (by omega) (by omega) (sw_callVx (k := k9 + 699) (n := n9 + 9994) (k' := 0) (n' := 0) (as := [.int (xs (5 * i + 1)), .int 0]) (st := []) (st2 := [.int v]) O (hM _ ⟨h0, σ', _, s, hB, rfl⟩) ce_X14_rules ml_L_161 iv_X14_rules cl_X14 rfl lm_mod (xx_dt dd_L_law_3 41 rfl) (by decide) rfl rfl (Nat.le_of_ble_eq_true rfl) rfl ?_)
    refine sw_istore (ls2 := [.ref 11, .ref 1000, .ref 5000, .ref 4500, .int (nI (5 * i)), .int (lw_k [eIAE, eISE] o), .int v]) O (xx_dt dd_L_law_3 42 rfl) (by decide) rfl ?_
    refine sw_aload_n O (xx_dt dd_L_law_3 43 rfl) rfl ?_
    obtain ⟨kT, ekT⟩ : ∃ q, q = k9 + 699 := ⟨_, rfl⟩
    obtain ⟨nT, enT⟩ : ∃ q, q = n9 + 9994 := ⟨_, rfl⟩
    refine xx_wid (k' := kT) (n' := nT) (by omega) (by omega) ?_
    refine sw_callVx (as := []) (st := []) (st2 := [.int (f_Mthrown τ')]) O (ct_X14_thrown hl (okM.bs ⟨h0, σ', _, s, hB, rfl⟩)) ce_X14_thrown ml_L_147 iv_X14_thrown cl_X14 rfl lm_mod (xx_dt dd_L_law_3 44 rfl) (by decide) rfl rfl (Nat.le_of_ble_eq_true rfl) rfl ?_
    refine sw_iload O (xx_dt dd_L_law_3 45 rfl) rfl ?_
    refine sw_icmp_eq (tgt := 511) O (xx_dt dd_L_law_3 46 rfl) (by decide) (fun _ => ?_) (fun q9 => absurd (show f_Mthrown τ' = _ from hT) q9)
    refine sw_iload O (xx_dt dd_L_law_3 49 rfl) rfl ?_
    cases o with
    | inr E =>
      refine sw_if_ne (tgt := 529) O (xx_dt dd_L_law_3 50 rfl) (by decide) (fun _ => ?_) (fun q9 => ?_)
      · refine sw_goto (tgt := 2654) O (xx_dt dd_L_law_3 59 rfl) (by decide) ?_
        refine sw_dum (ls2 := [.ref 11, .ref 1000, .ref 5000, .ref 4500, .int (nI (5 * i)), xx_d, xx_d]) ⟨.inr rfl, .inr rfl, .inr rfl, .inr rfl, .inr rfl, .inl rfl, .inl rfl, trivial⟩ ?_
        refine xx_wid (k' := k9) (n' := n9) (by omega) (by omega) ?_
        exact kk z' τ' σ' _ hI'
      · exfalso
        rcases hE E rfl with rfl | rfl
        · revert q9; decide
        · revert q9; decide
    | inl w =>
      obtain rfl := hV w rfl
      refine sw_if_ne (tgt := 529) O (xx_dt dd_L_law_3 50 rfl) (by decide) (fun q9 => absurd rfl q9) (fun _ => ?_)
      refine sw_aload_n O (xx_dt dd_L_law_3 51 rfl) rfl ?_
      refine sw_get (v := .long (Int32.toInt64 w)) O (xx_dt dd_L_law_3 52 rfl) cl_X8 fl_L_13 ((setM_out (by omega)).trans ((setC_out (by omega)).trans hO_4500)) (by decide) rfl ?_
      refine sw_iload O (xx_dt dd_L_law_3 53 rfl) rfl ?_
      refine sw_i2l O (xx_dt dd_L_law_3 54 rfl) ?_
      refine sw_lcmp O (xx_dt dd_L_law_3 55 rfl) ?_
      refine sw_if_eq (tgt := 529) O (xx_dt dd_L_law_3 56 rfl) (by decide) (fun _ => ?_) (fun q9 => absurd (lw_cmp _) q9)
      refine sw_goto (tgt := 2654) O (xx_dt dd_L_law_3 59 rfl) (by decide) ?_
      refine sw_dum (ls2 := [.ref 11, .ref 1000, .ref 5000, .ref 4500, .int (nI (5 * i)), xx_d, xx_d]) ⟨.inr rfl, .inr rfl, .inr rfl, .inr rfl, .inr rfl, .inl rfl, .inl rfl, trivial⟩ ?_
      refine xx_wid (k' := k9) (n' := n9) (by omega) (by omega) ?_
      exact kk z' τ' σ' _ hI'
  · obtain ⟨o, σ', v, z', τ', hC, hE, hM, hI', hT, hV⟩ := hif z τ σ (xs (5 * i + 1)) (1) hI (.inr rfl)
    refine sw_aload_n O (xx_dt dd_L_law_3 8 rfl) rfl ?_
    refine sw_aload_n O (xx_dt dd_L_law_3 9 rfl) rfl ?_
    refine sw_iload O (xx_dt dd_L_law_3 10 rfl) rfl ?_
    refine sw_iconst (x := 1) O (xx_dt dd_L_law_3 11 rfl) (by decide) ?_
    refine sw_iadd O (xx_dt dd_L_law_3 12 rfl) ?_
    rw [show nI (5 * i) + 1 = nI (5 * i + 1) from nI_plus (5 * i) 1]
    refine sw_iaload (v := .int (xs (5 * i + 1))) O (xx_dt dd_L_law_3 13 rfl) ((hL_lo (by omega)).trans h11) (pk_in (5 * i + 1) _ (by omega)) (by rw [nI_clamp (by omega)]) ?_
    refine sw_aload_n O (xx_dt dd_L_law_3 14 rfl) rfl ?_
    refine sw_iload O (xx_dt dd_L_law_3 15 rfl) rfl ?_
    refine sw_iconst (x := 2) O (xx_dt dd_L_law_3 16 rfl) (by decide) ?_
    refine sw_iadd O (xx_dt dd_L_law_3 17 rfl) ?_
    rw [show nI (5 * i) + 2 = nI (5 * i + 2) from nI_plus (5 * i) 2]
    refine sw_iaload (v := .int (xs (5 * i + 2))) O (xx_dt dd_L_law_3 18 rfl) ((hL_lo (by omega)).trans h11) (pk_in (5 * i + 2) _ (by omega)) (by rw [nI_clamp (by omega)]) ?_
    refine sw_if_eq (tgt := 467) O (xx_dt dd_L_law_3 19 rfl) (by decide) (fun q9 => absurd q9 hb2) (fun _ => ?_)
    refine sw_iconst (x := 1) O (xx_dt dd_L_law_3 20 rfl) (by decide) ?_
    refine sw_goto (tgt := 468) O (xx_dt dd_L_law_3 21 rfl) (by decide) ?_
    refine sw_aload_n O (xx_dt dd_L_law_3 23 rfl) rfl ?_
    rw [hL_c]
    refine xx_wid (k' := (k9 + 699) + 1) (n' := (n9 + 9994) + 6) (by omega) (by omega) (sw_callSH (k := k9 + 699) (n := n9 + 9994) (k' := 1) (n' := 6) (as := [.ref 1000, .int (xs (5 * i + 1)), .int 1, .ref 4500]) (st := []) (st2 := [.int (lw_k [eIAE, eISE] o)]) O (lw_rules hl (hC _ ⟨h0, z, τ, n, s, hB, rfl⟩) (ly_1000 σ _) (F := fO n (sO s)) ((setC_out (by omega)).trans ((setM_out (by omega)).trans hO_4500)) hE) ch_L_rules mk_L_158 st_L_rules (xx_dt dd_L_law_3 24 rfl) (by decide) rfl rfl (Nat.le_of_ble_eq_true rfl) rfl ?_)
    rw [lw_g_e]
    refine sw_istore (ls2 := [.ref 11, .ref 1000, .ref 5000, .ref 4500, .int (nI (5 * i)), .int (lw_k [eIAE, eISE] o), xx_d]) O (xx_dt dd_L_law_3 25 rfl) (by decide) rfl ?_
    obtain ⟨kT, ekT⟩ : ∃ q, q = k9 + 699 := ⟨_, rfl⟩
    obtain ⟨nT, enT⟩ : ∃ q, q = n9 + 9994 := ⟨_, rfl⟩
    refine xx_wid (k' := kT) (n' := nT) (by omega) (by omega) ?_
    show SW Y _ _ (setM z τ (setC σ' (hO h0 (lw_n n o Int32.toInt64) s))) 474 [.ref 11, .ref 1000, .ref 5000, .ref 4500, .int (nI (5 * i)), .int (lw_k [eIAE, eISE] o), xx_d] []
    refine sw_aload_n O (xx_dt dd_L_law_3 26 rfl) rfl ?_
    refine sw_aload_n O (xx_dt dd_L_law_3 27 rfl) rfl ?_
    refine sw_iload O (xx_dt dd_L_law_3 28 rfl) rfl ?_
    refine sw_iconst (x := 1) O (xx_dt dd_L_law_3 29 rfl) (by decide) ?_
    refine sw_iadd O (xx_dt dd_L_law_3 30 rfl) ?_
    rw [show nI (5 * i) + 1 = nI (5 * i + 1) from nI_plus (5 * i) 1]
    refine sw_iaload (v := .int (xs (5 * i + 1))) O (xx_dt dd_L_law_3 31 rfl) ((setM_out (by omega)).trans ((setC_out (by omega)).trans ((hO_o (by omega) (by omega) (by omega)).trans h11))) (pk_in (5 * i + 1) _ (by omega)) (by rw [nI_clamp (by omega)]) ?_
    refine sw_aload_n O (xx_dt dd_L_law_3 32 rfl) rfl ?_
    refine sw_iload O (xx_dt dd_L_law_3 33 rfl) rfl ?_
    refine sw_iconst (x := 2) O (xx_dt dd_L_law_3 34 rfl) (by decide) ?_
    refine sw_iadd O (xx_dt dd_L_law_3 35 rfl) ?_
    rw [show nI (5 * i) + 2 = nI (5 * i + 2) from nI_plus (5 * i) 2]
    refine sw_iaload (v := .int (xs (5 * i + 2))) O (xx_dt dd_L_law_3 36 rfl) ((setM_out (by omega)).trans ((setC_out (by omega)).trans ((hO_o (by omega) (by omega) (by omega)).trans h11))) (pk_in (5 * i + 2) _ (by omega)) (by rw [nI_clamp (by omega)]) ?_
    refine sw_if_eq (tgt := 494) O (xx_dt dd_L_law_3 37 rfl) (by decide) (fun q9 => absurd q9 hb2) (fun _ => ?_)
    refine sw_iconst (x := 1) O (xx_dt dd_L_law_3 38 rfl) (by decide) ?_
    refine sw_goto (tgt := 495) O (xx_dt dd_L_law_3 39 rfl) (by decide) ?_
    refine xx_wid (k' := (k9 + 699) + 0) (n' := (n9 + 9994) + 0) (by omega) (by omega) (sw_callVx (k := k9 + 699) (n := n9 + 9994) (k' := 0) (n' := 0) (as := [.int (xs (5 * i + 1)), .int 1]) (st := []) (st2 := [.int v]) O (hM _ ⟨h0, σ', _, s, hB, rfl⟩) ce_X14_rules ml_L_161 iv_X14_rules cl_X14 rfl lm_mod (xx_dt dd_L_law_3 41 rfl) (by decide) rfl rfl (Nat.le_of_ble_eq_true rfl) rfl ?_)
    refine sw_istore (ls2 := [.ref 11, .ref 1000, .ref 5000, .ref 4500, .int (nI (5 * i)), .int (lw_k [eIAE, eISE] o), .int v]) O (xx_dt dd_L_law_3 42 rfl) (by decide) rfl ?_
    refine sw_aload_n O (xx_dt dd_L_law_3 43 rfl) rfl ?_
    obtain ⟨kT, ekT⟩ : ∃ q, q = k9 + 699 := ⟨_, rfl⟩
    obtain ⟨nT, enT⟩ : ∃ q, q = n9 + 9994 := ⟨_, rfl⟩
    refine xx_wid (k' := kT) (n' := nT) (by omega) (by omega) ?_
    refine sw_callVx (as := []) (st := []) (st2 := [.int (f_Mthrown τ')]) O (ct_X14_thrown hl (okM.bs ⟨h0, σ', _, s, hB, rfl⟩)) ce_X14_thrown ml_L_147 iv_X14_thrown cl_X14 rfl lm_mod (xx_dt dd_L_law_3 44 rfl) (by decide) rfl rfl (Nat.le_of_ble_eq_true rfl) rfl ?_
    refine sw_iload O (xx_dt dd_L_law_3 45 rfl) rfl ?_
    refine sw_icmp_eq (tgt := 511) O (xx_dt dd_L_law_3 46 rfl) (by decide) (fun _ => ?_) (fun q9 => absurd (show f_Mthrown τ' = _ from hT) q9)
    refine sw_iload O (xx_dt dd_L_law_3 49 rfl) rfl ?_
    cases o with
    | inr E =>
      refine sw_if_ne (tgt := 529) O (xx_dt dd_L_law_3 50 rfl) (by decide) (fun _ => ?_) (fun q9 => ?_)
      · refine sw_goto (tgt := 2654) O (xx_dt dd_L_law_3 59 rfl) (by decide) ?_
        refine sw_dum (ls2 := [.ref 11, .ref 1000, .ref 5000, .ref 4500, .int (nI (5 * i)), xx_d, xx_d]) ⟨.inr rfl, .inr rfl, .inr rfl, .inr rfl, .inr rfl, .inl rfl, .inl rfl, trivial⟩ ?_
        refine xx_wid (k' := k9) (n' := n9) (by omega) (by omega) ?_
        exact kk z' τ' σ' _ hI'
      · exfalso
        rcases hE E rfl with rfl | rfl
        · revert q9; decide
        · revert q9; decide
    | inl w =>
      obtain rfl := hV w rfl
      refine sw_if_ne (tgt := 529) O (xx_dt dd_L_law_3 50 rfl) (by decide) (fun q9 => absurd rfl q9) (fun _ => ?_)
      refine sw_aload_n O (xx_dt dd_L_law_3 51 rfl) rfl ?_
      refine sw_get (v := .long (Int32.toInt64 w)) O (xx_dt dd_L_law_3 52 rfl) cl_X8 fl_L_13 ((setM_out (by omega)).trans ((setC_out (by omega)).trans hO_4500)) (by decide) rfl ?_
      refine sw_iload O (xx_dt dd_L_law_3 53 rfl) rfl ?_
      refine sw_i2l O (xx_dt dd_L_law_3 54 rfl) ?_
      refine sw_lcmp O (xx_dt dd_L_law_3 55 rfl) ?_
      refine sw_if_eq (tgt := 529) O (xx_dt dd_L_law_3 56 rfl) (by decide) (fun _ => ?_) (fun q9 => absurd (lw_cmp _) q9)
      refine sw_goto (tgt := 2654) O (xx_dt dd_L_law_3 59 rfl) (by decide) ?_
      refine sw_dum (ls2 := [.ref 11, .ref 1000, .ref 5000, .ref 4500, .int (nI (5 * i)), xx_d, xx_d]) ⟨.inr rfl, .inr rfl, .inr rfl, .inr rfl, .inr rfl, .inl rfl, .inl rfl, trivial⟩ ?_
      refine xx_wid (k' := k9) (n' := n9) (by omega) (by omega) ?_
      exact kk z' τ' σ' _ hI'
theorem lc_4 {Y : XY} {l : Launch} {h0 : XH} {xs : Nat → Int32} {len i : Nat} {n : Int64} {s : Option (Nat × (Nat → Value))} {z : Int64} {τ σ : XS9} {LI : XS9 → XS9 → Prop} (O : xx_O Y m_L_law l 40) (hl : l.stackTraces = false) (hB : okB h0) (h11 : h0 11 = some (100, len, fun j => .int (xs j))) (hi : 5 * i + 5 ≤ len) (hlen : len ≤ 2560) (hI : LI τ σ) (hif : IF_step l LI) {k9 n9 : Nat} (kk : ∀ z τ σ n, LI τ σ → SW Y k9 n9 (hL h0 z τ σ n s) 2654 [.ref 11, .ref 1000, .ref 5000, .ref 4500, .int (nI (5 * i)), xx_d, xx_d] []) : SW Y (k9 + 700) (n9 + 10000) (hL h0 z τ σ n s) 532 [.ref 11, .ref 1000, .ref 5000, .ref 4500, .int (nI (5 * i)), xx_d, xx_d] [] := by
  obtain ⟨kT, ekT⟩ : ∃ q, q = k9 + 700 := ⟨_, rfl⟩
  obtain ⟨nT, enT⟩ : ∃ q, q = n9 + 10000 := ⟨_, rfl⟩
  refine xx_wid (k' := kT) (n' := nT) (by omega) (by omega) ?_
  obtain ⟨o, σ', v, z', τ', hC, hE, hM, hI', hT, hV⟩ := hif z τ σ (xs (5 * i + 1)) hI
  refine sw_aload_n O (xx_dt dd_L_law_4 0 rfl) rfl ?_
  refine sw_aload_n O (xx_dt dd_L_law_4 1 rfl) rfl ?_
  refine sw_iload O (xx_dt dd_L_law_4 2 rfl) rfl ?_
  refine sw_iconst (x := 1) O (xx_dt dd_L_law_4 3 rfl) (by decide) ?_
  refine sw_iadd O (xx_dt dd_L_law_4 4 rfl) ?_
  rw [show nI (5 * i) + 1 = nI (5 * i + 1) from nI_plus (5 * i) 1]
  refine sw_iaload (v := .int (xs (5 * i + 1))) O (xx_dt dd_L_law_4 5 rfl) ((hL_lo (by omega)).trans h11) (pk_in (5 * i + 1) _ (by omega)) (by rw [nI_clamp (by omega)]) ?_
  refine sw_aload_n O (xx_dt dd_L_law_4 6 rfl) rfl ?_
  rw [hL_c]
  refine xx_wid (k' := (k9 + 699) + 1) (n' := (n9 + 9994) + 6) (by omega) (by omega) (sw_callSH (k := k9 + 699) (n := n9 + 9994) (k' := 1) (n' := 6) (as := [.ref 1000, .int (xs (5 * i + 1)), .ref 4500]) (st := []) (st2 := [.int (lw_k [eIAE, eISE] o)]) O (lw_step hl (hC _ ⟨h0, z, τ, n, s, hB, rfl⟩) (ly_1000 σ _) (F := fO n (sO s)) ((setC_out (by omega)).trans ((setM_out (by omega)).trans hO_4500)) hE) ch_L_step mk_L_162 st_L_step (xx_dt dd_L_law_4 7 rfl) (by decide) rfl rfl (Nat.le_of_ble_eq_true rfl) rfl ?_)
  rw [lw_g_e]
  refine sw_istore (ls2 := [.ref 11, .ref 1000, .ref 5000, .ref 4500, .int (nI (5 * i)), .int (lw_k [eIAE, eISE] o), xx_d]) O (xx_dt dd_L_law_4 8 rfl) (by decide) rfl ?_
  obtain ⟨kT, ekT⟩ : ∃ q, q = k9 + 699 := ⟨_, rfl⟩
  obtain ⟨nT, enT⟩ : ∃ q, q = n9 + 9994 := ⟨_, rfl⟩
  refine xx_wid (k' := kT) (n' := nT) (by omega) (by omega) ?_
  show SW Y _ _ (setM z τ (setC σ' (hO h0 (lw_n n o Int32.toInt64) s))) 545 [.ref 11, .ref 1000, .ref 5000, .ref 4500, .int (nI (5 * i)), .int (lw_k [eIAE, eISE] o), xx_d] []
  refine sw_aload_n O (xx_dt dd_L_law_4 9 rfl) rfl ?_
  refine sw_aload_n O (xx_dt dd_L_law_4 10 rfl) rfl ?_
  refine sw_iload O (xx_dt dd_L_law_4 11 rfl) rfl ?_
  refine sw_iconst (x := 1) O (xx_dt dd_L_law_4 12 rfl) (by decide) ?_
  refine sw_iadd O (xx_dt dd_L_law_4 13 rfl) ?_
  rw [show nI (5 * i) + 1 = nI (5 * i + 1) from nI_plus (5 * i) 1]
  refine sw_iaload (v := .int (xs (5 * i + 1))) O (xx_dt dd_L_law_4 14 rfl) ((setM_out (by omega)).trans ((setC_out (by omega)).trans ((hO_o (by omega) (by omega) (by omega)).trans h11))) (pk_in (5 * i + 1) _ (by omega)) (by rw [nI_clamp (by omega)]) ?_
  refine xx_wid (k' := (k9 + 699) + 0) (n' := (n9 + 9994) + 0) (by omega) (by omega) (sw_callVx (k := k9 + 699) (n := n9 + 9994) (k' := 0) (n' := 0) (as := [.int (xs (5 * i + 1))]) (st := []) (st2 := [.int v]) O (hM _ ⟨h0, σ', _, s, hB, rfl⟩) ce_X14_step ml_L_165 iv_X14_step cl_X14 rfl lm_mod (xx_dt dd_L_law_4 15 rfl) (by decide) rfl rfl (Nat.le_of_ble_eq_true rfl) rfl ?_)
  refine sw_istore (ls2 := [.ref 11, .ref 1000, .ref 5000, .ref 4500, .int (nI (5 * i)), .int (lw_k [eIAE, eISE] o), .int v]) O (xx_dt dd_L_law_4 16 rfl) (by decide) rfl ?_
  refine sw_aload_n O (xx_dt dd_L_law_4 17 rfl) rfl ?_
  obtain ⟨kT, ekT⟩ : ∃ q, q = k9 + 699 := ⟨_, rfl⟩
  obtain ⟨nT, enT⟩ : ∃ q, q = n9 + 9994 := ⟨_, rfl⟩
  refine xx_wid (k' := kT) (n' := nT) (by omega) (by omega) ?_
  refine sw_callVx (as := []) (st := []) (st2 := [.int (f_Mthrown τ')]) O (ct_X14_thrown hl (okM.bs ⟨h0, σ', _, s, hB, rfl⟩)) ce_X14_thrown ml_L_147 iv_X14_thrown cl_X14 rfl lm_mod (xx_dt dd_L_law_4 18 rfl) (by decide) rfl rfl (Nat.le_of_ble_eq_true rfl) rfl ?_
  refine sw_iload O (xx_dt dd_L_law_4 19 rfl) rfl ?_
  refine sw_icmp_eq (tgt := 568) O (xx_dt dd_L_law_4 20 rfl) (by decide) (fun _ => ?_) (fun q9 => absurd (show f_Mthrown τ' = _ from hT) q9)
  refine sw_iload O (xx_dt dd_L_law_4 23 rfl) rfl ?_
  cases o with
  | inr E =>
    refine sw_if_ne (tgt := 586) O (xx_dt dd_L_law_4 24 rfl) (by decide) (fun _ => ?_) (fun q9 => ?_)
    · refine sw_goto (tgt := 2654) O (xx_dt dd_L_law_4 33 rfl) (by decide) ?_
      refine sw_dum (ls2 := [.ref 11, .ref 1000, .ref 5000, .ref 4500, .int (nI (5 * i)), xx_d, xx_d]) ⟨.inr rfl, .inr rfl, .inr rfl, .inr rfl, .inr rfl, .inl rfl, .inl rfl, trivial⟩ ?_
      refine xx_wid (k' := k9) (n' := n9) (by omega) (by omega) ?_
      exact kk z' τ' σ' _ hI'
    · exfalso
      rcases hE E rfl with rfl | rfl
      · revert q9; decide
      · revert q9; decide
  | inl w =>
    obtain rfl := hV w rfl
    refine sw_if_ne (tgt := 586) O (xx_dt dd_L_law_4 24 rfl) (by decide) (fun q9 => absurd rfl q9) (fun _ => ?_)
    refine sw_aload_n O (xx_dt dd_L_law_4 25 rfl) rfl ?_
    refine sw_get (v := .long (Int32.toInt64 w)) O (xx_dt dd_L_law_4 26 rfl) cl_X8 fl_L_13 ((setM_out (by omega)).trans ((setC_out (by omega)).trans hO_4500)) (by decide) rfl ?_
    refine sw_iload O (xx_dt dd_L_law_4 27 rfl) rfl ?_
    refine sw_i2l O (xx_dt dd_L_law_4 28 rfl) ?_
    refine sw_lcmp O (xx_dt dd_L_law_4 29 rfl) ?_
    refine sw_if_eq (tgt := 586) O (xx_dt dd_L_law_4 30 rfl) (by decide) (fun _ => ?_) (fun q9 => absurd (lw_cmp _) q9)
    refine sw_goto (tgt := 2654) O (xx_dt dd_L_law_4 33 rfl) (by decide) ?_
    refine sw_dum (ls2 := [.ref 11, .ref 1000, .ref 5000, .ref 4500, .int (nI (5 * i)), xx_d, xx_d]) ⟨.inr rfl, .inr rfl, .inr rfl, .inr rfl, .inr rfl, .inl rfl, .inl rfl, trivial⟩ ?_
    refine xx_wid (k' := k9) (n' := n9) (by omega) (by omega) ?_
    exact kk z' τ' σ' _ hI'
theorem lc_5 {Y : XY} {l : Launch} {h0 : XH} {xs : Nat → Int32} {len i : Nat} {n : Int64} {s : Option (Nat × (Nat → Value))} {z : Int64} {τ σ : XS9} {LI : XS9 → XS9 → Prop} (O : xx_O Y m_L_law l 40) (hl : l.stackTraces = false) (hB : okB h0) (h11 : h0 11 = some (100, len, fun j => .int (xs j))) (hi : 5 * i + 5 ≤ len) (hlen : len ≤ 2560) (hI : LI τ σ) (hif : IF_open l LI) {k9 n9 : Nat} (kk : ∀ z τ σ n, LI τ σ → SW Y k9 n9 (hL h0 z τ σ n s) 2654 [.ref 11, .ref 1000, .ref 5000, .ref 4500, .int (nI (5 * i)), xx_d, xx_d] []) : SW Y (k9 + 700) (n9 + 10000) (hL h0 z τ σ n s) 589 [.ref 11, .ref 1000, .ref 5000, .ref 4500, .int (nI (5 * i)), xx_d, xx_d] [] := by
  obtain ⟨kT, ekT⟩ : ∃ q, q = k9 + 700 := ⟨_, rfl⟩
  obtain ⟨nT, enT⟩ : ∃ q, q = n9 + 10000 := ⟨_, rfl⟩
  refine xx_wid (k' := kT) (n' := nT) (by omega) (by omega) ?_
  obtain ⟨o, σ', v, z', τ', hC, hE, hM, hI', hT, hV⟩ := hif z τ σ  hI
  refine sw_aload_n O (xx_dt dd_L_law_4 34 rfl) rfl ?_
  refine sw_aload_n O (xx_dt dd_L_law_4 35 rfl) rfl ?_
  rw [hL_c]
  refine xx_wid (k' := (k9 + 699) + 1) (n' := (n9 + 9994) + 6) (by omega) (by omega) (sw_callSH (k := k9 + 699) (n := n9 + 9994) (k' := 1) (n' := 6) (as := [.ref 1000, .ref 4500]) (st := []) (st2 := [.int (lw_k [eISE] o)]) O (lw_open hl (hC _ ⟨h0, z, τ, n, s, hB, rfl⟩) (ly_1000 σ _) (F := fO n (sO s)) ((setC_out (by omega)).trans ((setM_out (by omega)).trans hO_4500)) hE) ch_L_open mk_L_166 st_L_open (xx_dt dd_L_law_4 36 rfl) (by decide) rfl rfl (Nat.le_of_ble_eq_true rfl) rfl ?_)
  rw [lw_g_e]
  refine sw_istore (ls2 := [.ref 11, .ref 1000, .ref 5000, .ref 4500, .int (nI (5 * i)), .int (lw_k [eISE] o), xx_d]) O (xx_dt dd_L_law_4 37 rfl) (by decide) rfl ?_
  obtain ⟨kT, ekT⟩ : ∃ q, q = k9 + 699 := ⟨_, rfl⟩
  obtain ⟨nT, enT⟩ : ∃ q, q = n9 + 9994 := ⟨_, rfl⟩
  refine xx_wid (k' := kT) (n' := nT) (by omega) (by omega) ?_
  show SW Y _ _ (setM z τ (setC σ' (hO h0 (lw_n n o Int32.toInt64) s))) 596 [.ref 11, .ref 1000, .ref 5000, .ref 4500, .int (nI (5 * i)), .int (lw_k [eISE] o), xx_d] []
  refine sw_aload_n O (xx_dt dd_L_law_4 38 rfl) rfl ?_
  refine xx_wid (k' := (k9 + 688) + 11) (n' := (n9 + 9932) + 62) (by omega) (by omega) (sw_callVx (k := k9 + 688) (n := n9 + 9932) (k' := 11) (n' := 62) (as := []) (st := []) (st2 := [.int v]) O (hM _ ⟨h0, σ', _, s, hB, rfl⟩) ce_X14_open ml_L_169 iv_X14_open cl_X14 rfl lm_mod (xx_dt dd_L_law_4 39 rfl) (by decide) rfl rfl (Nat.le_of_ble_eq_true rfl) rfl ?_)
  refine sw_istore (ls2 := [.ref 11, .ref 1000, .ref 5000, .ref 4500, .int (nI (5 * i)), .int (lw_k [eISE] o), .int v]) O (xx_dt dd_L_law_4 40 rfl) (by decide) rfl ?_
  refine sw_aload_n O (xx_dt dd_L_law_4 41 rfl) rfl ?_
  obtain ⟨kT, ekT⟩ : ∃ q, q = k9 + 688 := ⟨_, rfl⟩
  obtain ⟨nT, enT⟩ : ∃ q, q = n9 + 9932 := ⟨_, rfl⟩
  refine xx_wid (k' := kT) (n' := nT) (by omega) (by omega) ?_
  refine sw_callVx (as := []) (st := []) (st2 := [.int (f_Mthrown τ')]) O (ct_X14_thrown hl (okM.bs ⟨h0, σ', _, s, hB, rfl⟩)) ce_X14_thrown ml_L_147 iv_X14_thrown cl_X14 rfl lm_mod (xx_dt dd_L_law_4 42 rfl) (by decide) rfl rfl (Nat.le_of_ble_eq_true rfl) rfl ?_
  refine sw_iload O (xx_dt dd_L_law_4 43 rfl) rfl ?_
  refine sw_icmp_eq (tgt := 613) O (xx_dt dd_L_law_4 44 rfl) (by decide) (fun _ => ?_) (fun q9 => absurd (show f_Mthrown τ' = _ from hT) q9)
  refine sw_iload O (xx_dt dd_L_law_4 47 rfl) rfl ?_
  cases o with
  | inr E =>
    refine sw_if_ne (tgt := 631) O (xx_dt dd_L_law_4 48 rfl) (by decide) (fun _ => ?_) (fun q9 => ?_)
    · refine sw_goto (tgt := 2654) O (xx_dt dd_L_law_4 57 rfl) (by decide) ?_
      refine sw_dum (ls2 := [.ref 11, .ref 1000, .ref 5000, .ref 4500, .int (nI (5 * i)), xx_d, xx_d]) ⟨.inr rfl, .inr rfl, .inr rfl, .inr rfl, .inr rfl, .inl rfl, .inl rfl, trivial⟩ ?_
      refine xx_wid (k' := k9) (n' := n9) (by omega) (by omega) ?_
      exact kk z' τ' σ' _ hI'
    · exfalso
      rcases hE E rfl with rfl
      · revert q9; decide
  | inl w =>
    obtain rfl := hV w rfl
    refine sw_if_ne (tgt := 631) O (xx_dt dd_L_law_4 48 rfl) (by decide) (fun q9 => absurd rfl q9) (fun _ => ?_)
    refine sw_aload_n O (xx_dt dd_L_law_4 49 rfl) rfl ?_
    refine sw_get (v := .long (Int32.toInt64 w)) O (xx_dt dd_L_law_4 50 rfl) cl_X8 fl_L_13 ((setM_out (by omega)).trans ((setC_out (by omega)).trans hO_4500)) (by decide) rfl ?_
    refine sw_iload O (xx_dt dd_L_law_4 51 rfl) rfl ?_
    refine sw_i2l O (xx_dt dd_L_law_4 52 rfl) ?_
    refine sw_lcmp O (xx_dt dd_L_law_4 53 rfl) ?_
    refine sw_if_eq (tgt := 631) O (xx_dt dd_L_law_4 54 rfl) (by decide) (fun _ => ?_) (fun q9 => absurd (lw_cmp _) q9)
    refine sw_goto (tgt := 2654) O (xx_dt dd_L_law_4 57 rfl) (by decide) ?_
    refine sw_dum (ls2 := [.ref 11, .ref 1000, .ref 5000, .ref 4500, .int (nI (5 * i)), xx_d, xx_d]) ⟨.inr rfl, .inr rfl, .inr rfl, .inr rfl, .inr rfl, .inl rfl, .inl rfl, trivial⟩ ?_
    refine xx_wid (k' := k9) (n' := n9) (by omega) (by omega) ?_
    exact kk z' τ' σ' _ hI'
theorem lc_6 {Y : XY} {l : Launch} {h0 : XH} {xs : Nat → Int32} {len i : Nat} {n : Int64} {s : Option (Nat × (Nat → Value))} {z : Int64} {τ σ : XS9} {LI : XS9 → XS9 → Prop} (O : xx_O Y m_L_law l 40) (hl : l.stackTraces = false) (hB : okB h0) (h11 : h0 11 = some (100, len, fun j => .int (xs j))) (hi : 5 * i + 5 ≤ len) (hlen : len ≤ 2560) (hI : LI τ σ) (hif : IF_wish l LI) {k9 n9 : Nat} (kk : ∀ z τ σ n, LI τ σ → SW Y k9 n9 (hL h0 z τ σ n s) 2654 [.ref 11, .ref 1000, .ref 5000, .ref 4500, .int (nI (5 * i)), xx_d, xx_d] []) : SW Y (k9 + 700) (n9 + 10000) (hL h0 z τ σ n s) 634 [.ref 11, .ref 1000, .ref 5000, .ref 4500, .int (nI (5 * i)), xx_d, xx_d] [] := by
  obtain ⟨kT, ekT⟩ : ∃ q, q = k9 + 700 := ⟨_, rfl⟩
  obtain ⟨nT, enT⟩ : ∃ q, q = n9 + 10000 := ⟨_, rfl⟩
  refine xx_wid (k' := kT) (n' := nT) (by omega) (by omega) ?_
  obtain ⟨o, σ', v, z', τ', hC, hE, hM, hI', hT, hV⟩ := hif z τ σ (xs (5 * i + 1)) (xs (5 * i + 2)) (xs (5 * i + 3)) hI
  refine sw_aload_n O (xx_dt dd_L_law_4 58 rfl) rfl ?_
  refine sw_aload_n O (xx_dt dd_L_law_4 59 rfl) rfl ?_
  refine sw_iload O (xx_dt dd_L_law_5 0 rfl) rfl ?_
  refine sw_iconst (x := 1) O (xx_dt dd_L_law_5 1 rfl) (by decide) ?_
  refine sw_iadd O (xx_dt dd_L_law_5 2 rfl) ?_
  rw [show nI (5 * i) + 1 = nI (5 * i + 1) from nI_plus (5 * i) 1]
  refine sw_iaload (v := .int (xs (5 * i + 1))) O (xx_dt dd_L_law_5 3 rfl) ((hL_lo (by omega)).trans h11) (pk_in (5 * i + 1) _ (by omega)) (by rw [nI_clamp (by omega)]) ?_
  refine sw_aload_n O (xx_dt dd_L_law_5 4 rfl) rfl ?_
  refine sw_iload O (xx_dt dd_L_law_5 5 rfl) rfl ?_
  refine sw_iconst (x := 2) O (xx_dt dd_L_law_5 6 rfl) (by decide) ?_
  refine sw_iadd O (xx_dt dd_L_law_5 7 rfl) ?_
  rw [show nI (5 * i) + 2 = nI (5 * i + 2) from nI_plus (5 * i) 2]
  refine sw_iaload (v := .int (xs (5 * i + 2))) O (xx_dt dd_L_law_5 8 rfl) ((hL_lo (by omega)).trans h11) (pk_in (5 * i + 2) _ (by omega)) (by rw [nI_clamp (by omega)]) ?_
  refine sw_aload_n O (xx_dt dd_L_law_5 9 rfl) rfl ?_
  refine sw_iload O (xx_dt dd_L_law_5 10 rfl) rfl ?_
  refine sw_iconst (x := 3) O (xx_dt dd_L_law_5 11 rfl) (by decide) ?_
  refine sw_iadd O (xx_dt dd_L_law_5 12 rfl) ?_
  rw [show nI (5 * i) + 3 = nI (5 * i + 3) from nI_plus (5 * i) 3]
  refine sw_iaload (v := .int (xs (5 * i + 3))) O (xx_dt dd_L_law_5 13 rfl) ((hL_lo (by omega)).trans h11) (pk_in (5 * i + 3) _ (by omega)) (by rw [nI_clamp (by omega)]) ?_
  refine sw_aload_n O (xx_dt dd_L_law_5 14 rfl) rfl ?_
  rw [hL_c]
  refine xx_wid (k' := (k9 + 699) + 1) (n' := (n9 + 9994) + 6) (by omega) (by omega) (sw_callSH (k := k9 + 699) (n := n9 + 9994) (k' := 1) (n' := 6) (as := [.ref 1000, .int (xs (5 * i + 1)), .int (xs (5 * i + 2)), .int (xs (5 * i + 3)), .ref 4500]) (st := []) (st2 := [.int (lw_k [eIOB, eIAE, eISE] o)]) O (lw_wish hl (hC _ ⟨h0, z, τ, n, s, hB, rfl⟩) (ly_1000 σ _) (F := fO n (sO s)) ((setC_out (by omega)).trans ((setM_out (by omega)).trans hO_4500)) hE) ch_L_wish mk_L_170 st_L_wish (xx_dt dd_L_law_5 15 rfl) (by decide) rfl rfl (Nat.le_of_ble_eq_true rfl) rfl ?_)
  rw [lw_g_e]
  refine sw_istore (ls2 := [.ref 11, .ref 1000, .ref 5000, .ref 4500, .int (nI (5 * i)), .int (lw_k [eIOB, eIAE, eISE] o), xx_d]) O (xx_dt dd_L_law_5 16 rfl) (by decide) rfl ?_
  obtain ⟨kT, ekT⟩ : ∃ q, q = k9 + 699 := ⟨_, rfl⟩
  obtain ⟨nT, enT⟩ : ∃ q, q = n9 + 9994 := ⟨_, rfl⟩
  refine xx_wid (k' := kT) (n' := nT) (by omega) (by omega) ?_
  show SW Y _ _ (setM z τ (setC σ' (hO h0 (lw_n n o Int32.toInt64) s))) 659 [.ref 11, .ref 1000, .ref 5000, .ref 4500, .int (nI (5 * i)), .int (lw_k [eIOB, eIAE, eISE] o), xx_d] []
  refine sw_aload_n O (xx_dt dd_L_law_5 17 rfl) rfl ?_
  refine sw_aload_n O (xx_dt dd_L_law_5 18 rfl) rfl ?_
  refine sw_iload O (xx_dt dd_L_law_5 19 rfl) rfl ?_
  refine sw_iconst (x := 1) O (xx_dt dd_L_law_5 20 rfl) (by decide) ?_
  refine sw_iadd O (xx_dt dd_L_law_5 21 rfl) ?_
  rw [show nI (5 * i) + 1 = nI (5 * i + 1) from nI_plus (5 * i) 1]
  refine sw_iaload (v := .int (xs (5 * i + 1))) O (xx_dt dd_L_law_5 22 rfl) ((setM_out (by omega)).trans ((setC_out (by omega)).trans ((hO_o (by omega) (by omega) (by omega)).trans h11))) (pk_in (5 * i + 1) _ (by omega)) (by rw [nI_clamp (by omega)]) ?_
  refine sw_aload_n O (xx_dt dd_L_law_5 23 rfl) rfl ?_
  refine sw_iload O (xx_dt dd_L_law_5 24 rfl) rfl ?_
  refine sw_iconst (x := 2) O (xx_dt dd_L_law_5 25 rfl) (by decide) ?_
  refine sw_iadd O (xx_dt dd_L_law_5 26 rfl) ?_
  rw [show nI (5 * i) + 2 = nI (5 * i + 2) from nI_plus (5 * i) 2]
  refine sw_iaload (v := .int (xs (5 * i + 2))) O (xx_dt dd_L_law_5 27 rfl) ((setM_out (by omega)).trans ((setC_out (by omega)).trans ((hO_o (by omega) (by omega) (by omega)).trans h11))) (pk_in (5 * i + 2) _ (by omega)) (by rw [nI_clamp (by omega)]) ?_
  refine sw_aload_n O (xx_dt dd_L_law_5 28 rfl) rfl ?_
  refine sw_iload O (xx_dt dd_L_law_5 29 rfl) rfl ?_
  refine sw_iconst (x := 3) O (xx_dt dd_L_law_5 30 rfl) (by decide) ?_
  refine sw_iadd O (xx_dt dd_L_law_5 31 rfl) ?_
  rw [show nI (5 * i) + 3 = nI (5 * i + 3) from nI_plus (5 * i) 3]
  refine sw_iaload (v := .int (xs (5 * i + 3))) O (xx_dt dd_L_law_5 32 rfl) ((setM_out (by omega)).trans ((setC_out (by omega)).trans ((hO_o (by omega) (by omega) (by omega)).trans h11))) (pk_in (5 * i + 3) _ (by omega)) (by rw [nI_clamp (by omega)]) ?_
  refine xx_wid (k' := (k9 + 699) + 0) (n' := (n9 + 9994) + 0) (by omega) (by omega) (sw_callVx (k := k9 + 699) (n := n9 + 9994) (k' := 0) (n' := 0) (as := [.int (xs (5 * i + 1)), .int (xs (5 * i + 2)), .int (xs (5 * i + 3))]) (st := []) (st2 := [.int v]) O (hM _ ⟨h0, σ', _, s, hB, rfl⟩) ce_X14_wish ml_L_172 iv_X14_wish cl_X14 rfl lm_mod (xx_dt dd_L_law_5 33 rfl) (by decide) rfl rfl (Nat.le_of_ble_eq_true rfl) rfl ?_)
  refine sw_istore (ls2 := [.ref 11, .ref 1000, .ref 5000, .ref 4500, .int (nI (5 * i)), .int (lw_k [eIOB, eIAE, eISE] o), .int v]) O (xx_dt dd_L_law_5 34 rfl) (by decide) rfl ?_
  refine sw_aload_n O (xx_dt dd_L_law_5 35 rfl) rfl ?_
  obtain ⟨kT, ekT⟩ : ∃ q, q = k9 + 699 := ⟨_, rfl⟩
  obtain ⟨nT, enT⟩ : ∃ q, q = n9 + 9994 := ⟨_, rfl⟩
  refine xx_wid (k' := kT) (n' := nT) (by omega) (by omega) ?_
  refine sw_callVx (as := []) (st := []) (st2 := [.int (f_Mthrown τ')]) O (ct_X14_thrown hl (okM.bs ⟨h0, σ', _, s, hB, rfl⟩)) ce_X14_thrown ml_L_147 iv_X14_thrown cl_X14 rfl lm_mod (xx_dt dd_L_law_5 36 rfl) (by decide) rfl rfl (Nat.le_of_ble_eq_true rfl) rfl ?_
  refine sw_iload O (xx_dt dd_L_law_5 37 rfl) rfl ?_
  refine sw_icmp_eq (tgt := 694) O (xx_dt dd_L_law_5 38 rfl) (by decide) (fun _ => ?_) (fun q9 => absurd (show f_Mthrown τ' = _ from hT) q9)
  refine sw_iload O (xx_dt dd_L_law_5 41 rfl) rfl ?_
  cases o with
  | inr E =>
    refine sw_if_ne (tgt := 712) O (xx_dt dd_L_law_5 42 rfl) (by decide) (fun _ => ?_) (fun q9 => ?_)
    · refine sw_goto (tgt := 2654) O (xx_dt dd_L_law_5 51 rfl) (by decide) ?_
      refine sw_dum (ls2 := [.ref 11, .ref 1000, .ref 5000, .ref 4500, .int (nI (5 * i)), xx_d, xx_d]) ⟨.inr rfl, .inr rfl, .inr rfl, .inr rfl, .inr rfl, .inl rfl, .inl rfl, trivial⟩ ?_
      refine xx_wid (k' := k9) (n' := n9) (by omega) (by omega) ?_
      exact kk z' τ' σ' _ hI'
    · exfalso
      rcases hE E rfl with rfl | rfl | rfl
      · revert q9; decide
      · revert q9; decide
      · revert q9; decide
  | inl w =>
    obtain rfl := hV w rfl
    refine sw_if_ne (tgt := 712) O (xx_dt dd_L_law_5 42 rfl) (by decide) (fun q9 => absurd rfl q9) (fun _ => ?_)
    refine sw_aload_n O (xx_dt dd_L_law_5 43 rfl) rfl ?_
    refine sw_get (v := .long (Int32.toInt64 w)) O (xx_dt dd_L_law_5 44 rfl) cl_X8 fl_L_13 ((setM_out (by omega)).trans ((setC_out (by omega)).trans hO_4500)) (by decide) rfl ?_
    refine sw_iload O (xx_dt dd_L_law_5 45 rfl) rfl ?_
    refine sw_i2l O (xx_dt dd_L_law_5 46 rfl) ?_
    refine sw_lcmp O (xx_dt dd_L_law_5 47 rfl) ?_
    refine sw_if_eq (tgt := 712) O (xx_dt dd_L_law_5 48 rfl) (by decide) (fun _ => ?_) (fun q9 => absurd (lw_cmp _) q9)
    refine sw_goto (tgt := 2654) O (xx_dt dd_L_law_5 51 rfl) (by decide) ?_
    refine sw_dum (ls2 := [.ref 11, .ref 1000, .ref 5000, .ref 4500, .int (nI (5 * i)), xx_d, xx_d]) ⟨.inr rfl, .inr rfl, .inr rfl, .inr rfl, .inr rfl, .inl rfl, .inl rfl, trivial⟩ ?_
    refine xx_wid (k' := k9) (n' := n9) (by omega) (by omega) ?_
    exact kk z' τ' σ' _ hI'
theorem lc_7 {Y : XY} {l : Launch} {h0 : XH} {xs : Nat → Int32} {len i : Nat} {n : Int64} {s : Option (Nat × (Nat → Value))} {z : Int64} {τ σ : XS9} {LI : XS9 → XS9 → Prop} (O : xx_O Y m_L_law l 40) (hl : l.stackTraces = false) (hB : okB h0) (h11 : h0 11 = some (100, len, fun j => .int (xs j))) (hi : 5 * i + 5 ≤ len) (hlen : len ≤ 2560) (hI : LI τ σ) (hif : IF_waive l LI) {k9 n9 : Nat} (kk : ∀ z τ σ n, LI τ σ → SW Y k9 n9 (hL h0 z τ σ n s) 2654 [.ref 11, .ref 1000, .ref 5000, .ref 4500, .int (nI (5 * i)), xx_d, xx_d] []) : SW Y (k9 + 700) (n9 + 10000) (hL h0 z τ σ n s) 715 [.ref 11, .ref 1000, .ref 5000, .ref 4500, .int (nI (5 * i)), xx_d, xx_d] [] := by
  obtain ⟨kT, ekT⟩ : ∃ q, q = k9 + 700 := ⟨_, rfl⟩
  obtain ⟨nT, enT⟩ : ∃ q, q = n9 + 10000 := ⟨_, rfl⟩
  refine xx_wid (k' := kT) (n' := nT) (by omega) (by omega) ?_
  obtain ⟨o, σ', v, z', τ', hC, hE, hM, hI', hT, hV⟩ := hif z τ σ (xs (5 * i + 1)) hI
  refine sw_aload_n O (xx_dt dd_L_law_5 52 rfl) rfl ?_
  refine sw_aload_n O (xx_dt dd_L_law_5 53 rfl) rfl ?_
  refine sw_iload O (xx_dt dd_L_law_5 54 rfl) rfl ?_
  refine sw_iconst (x := 1) O (xx_dt dd_L_law_5 55 rfl) (by decide) ?_
  refine sw_iadd O (xx_dt dd_L_law_5 56 rfl) ?_
  rw [show nI (5 * i) + 1 = nI (5 * i + 1) from nI_plus (5 * i) 1]
  refine sw_iaload (v := .int (xs (5 * i + 1))) O (xx_dt dd_L_law_5 57 rfl) ((hL_lo (by omega)).trans h11) (pk_in (5 * i + 1) _ (by omega)) (by rw [nI_clamp (by omega)]) ?_
  refine sw_aload_n O (xx_dt dd_L_law_5 58 rfl) rfl ?_
  rw [hL_c]
  refine xx_wid (k' := (k9 + 699) + 1) (n' := (n9 + 9994) + 6) (by omega) (by omega) (sw_callSH (k := k9 + 699) (n := n9 + 9994) (k' := 1) (n' := 6) (as := [.ref 1000, .int (xs (5 * i + 1)), .ref 4500]) (st := []) (st2 := [.int (lw_k [eIOB, eISE] o)]) O (lw_waive hl (hC _ ⟨h0, z, τ, n, s, hB, rfl⟩) (ly_1000 σ _) (F := fO n (sO s)) ((setC_out (by omega)).trans ((setM_out (by omega)).trans hO_4500)) hE) ch_L_waive mk_L_173 st_L_waive (xx_dt dd_L_law_5 59 rfl) (by decide) rfl rfl (Nat.le_of_ble_eq_true rfl) rfl ?_)
  rw [lw_g_e]
  refine sw_istore (ls2 := [.ref 11, .ref 1000, .ref 5000, .ref 4500, .int (nI (5 * i)), .int (lw_k [eIOB, eISE] o), xx_d]) O (xx_dt dd_L_law_6 0 rfl) (by decide) rfl ?_
  obtain ⟨kT, ekT⟩ : ∃ q, q = k9 + 699 := ⟨_, rfl⟩
  obtain ⟨nT, enT⟩ : ∃ q, q = n9 + 9994 := ⟨_, rfl⟩
  refine xx_wid (k' := kT) (n' := nT) (by omega) (by omega) ?_
  show SW Y _ _ (setM z τ (setC σ' (hO h0 (lw_n n o Int32.toInt64) s))) 728 [.ref 11, .ref 1000, .ref 5000, .ref 4500, .int (nI (5 * i)), .int (lw_k [eIOB, eISE] o), xx_d] []
  refine sw_aload_n O (xx_dt dd_L_law_6 1 rfl) rfl ?_
  refine sw_aload_n O (xx_dt dd_L_law_6 2 rfl) rfl ?_
  refine sw_iload O (xx_dt dd_L_law_6 3 rfl) rfl ?_
  refine sw_iconst (x := 1) O (xx_dt dd_L_law_6 4 rfl) (by decide) ?_
  refine sw_iadd O (xx_dt dd_L_law_6 5 rfl) ?_
  rw [show nI (5 * i) + 1 = nI (5 * i + 1) from nI_plus (5 * i) 1]
  refine sw_iaload (v := .int (xs (5 * i + 1))) O (xx_dt dd_L_law_6 6 rfl) ((setM_out (by omega)).trans ((setC_out (by omega)).trans ((hO_o (by omega) (by omega) (by omega)).trans h11))) (pk_in (5 * i + 1) _ (by omega)) (by rw [nI_clamp (by omega)]) ?_
  refine xx_wid (k' := (k9 + 699) + 0) (n' := (n9 + 9994) + 0) (by omega) (by omega) (sw_callVx (k := k9 + 699) (n := n9 + 9994) (k' := 0) (n' := 0) (as := [.int (xs (5 * i + 1))]) (st := []) (st2 := [.int v]) O (hM _ ⟨h0, σ', _, s, hB, rfl⟩) ce_X14_waive ml_L_175 iv_X14_waive cl_X14 rfl lm_mod (xx_dt dd_L_law_6 7 rfl) (by decide) rfl rfl (Nat.le_of_ble_eq_true rfl) rfl ?_)
  refine sw_istore (ls2 := [.ref 11, .ref 1000, .ref 5000, .ref 4500, .int (nI (5 * i)), .int (lw_k [eIOB, eISE] o), .int v]) O (xx_dt dd_L_law_6 8 rfl) (by decide) rfl ?_
  refine sw_aload_n O (xx_dt dd_L_law_6 9 rfl) rfl ?_
  obtain ⟨kT, ekT⟩ : ∃ q, q = k9 + 699 := ⟨_, rfl⟩
  obtain ⟨nT, enT⟩ : ∃ q, q = n9 + 9994 := ⟨_, rfl⟩
  refine xx_wid (k' := kT) (n' := nT) (by omega) (by omega) ?_
  refine sw_callVx (as := []) (st := []) (st2 := [.int (f_Mthrown τ')]) O (ct_X14_thrown hl (okM.bs ⟨h0, σ', _, s, hB, rfl⟩)) ce_X14_thrown ml_L_147 iv_X14_thrown cl_X14 rfl lm_mod (xx_dt dd_L_law_6 10 rfl) (by decide) rfl rfl (Nat.le_of_ble_eq_true rfl) rfl ?_
  refine sw_iload O (xx_dt dd_L_law_6 11 rfl) rfl ?_
  refine sw_icmp_eq (tgt := 751) O (xx_dt dd_L_law_6 12 rfl) (by decide) (fun _ => ?_) (fun q9 => absurd (show f_Mthrown τ' = _ from hT) q9)
  refine sw_iload O (xx_dt dd_L_law_6 15 rfl) rfl ?_
  cases o with
  | inr E =>
    refine sw_if_ne (tgt := 769) O (xx_dt dd_L_law_6 16 rfl) (by decide) (fun _ => ?_) (fun q9 => ?_)
    · refine sw_goto (tgt := 2654) O (xx_dt dd_L_law_6 25 rfl) (by decide) ?_
      refine sw_dum (ls2 := [.ref 11, .ref 1000, .ref 5000, .ref 4500, .int (nI (5 * i)), xx_d, xx_d]) ⟨.inr rfl, .inr rfl, .inr rfl, .inr rfl, .inr rfl, .inl rfl, .inl rfl, trivial⟩ ?_
      refine xx_wid (k' := k9) (n' := n9) (by omega) (by omega) ?_
      exact kk z' τ' σ' _ hI'
    · exfalso
      rcases hE E rfl with rfl | rfl
      · revert q9; decide
      · revert q9; decide
  | inl w =>
    obtain rfl := hV w rfl
    refine sw_if_ne (tgt := 769) O (xx_dt dd_L_law_6 16 rfl) (by decide) (fun q9 => absurd rfl q9) (fun _ => ?_)
    refine sw_aload_n O (xx_dt dd_L_law_6 17 rfl) rfl ?_
    refine sw_get (v := .long (Int32.toInt64 w)) O (xx_dt dd_L_law_6 18 rfl) cl_X8 fl_L_13 ((setM_out (by omega)).trans ((setC_out (by omega)).trans hO_4500)) (by decide) rfl ?_
    refine sw_iload O (xx_dt dd_L_law_6 19 rfl) rfl ?_
    refine sw_i2l O (xx_dt dd_L_law_6 20 rfl) ?_
    refine sw_lcmp O (xx_dt dd_L_law_6 21 rfl) ?_
    refine sw_if_eq (tgt := 769) O (xx_dt dd_L_law_6 22 rfl) (by decide) (fun _ => ?_) (fun q9 => absurd (lw_cmp _) q9)
    refine sw_goto (tgt := 2654) O (xx_dt dd_L_law_6 25 rfl) (by decide) ?_
    refine sw_dum (ls2 := [.ref 11, .ref 1000, .ref 5000, .ref 4500, .int (nI (5 * i)), xx_d, xx_d]) ⟨.inr rfl, .inr rfl, .inr rfl, .inr rfl, .inr rfl, .inl rfl, .inl rfl, trivial⟩ ?_
    refine xx_wid (k' := k9) (n' := n9) (by omega) (by omega) ?_
    exact kk z' τ' σ' _ hI'
theorem lc_8 {Y : XY} {l : Launch} {h0 : XH} {xs : Nat → Int32} {len i : Nat} {n : Int64} {s : Option (Nat × (Nat → Value))} {z : Int64} {τ σ : XS9} {LI : XS9 → XS9 → Prop} (O : xx_O Y m_L_law l 40) (hl : l.stackTraces = false) (hB : okB h0) (h11 : h0 11 = some (100, len, fun j => .int (xs j))) (hi : 5 * i + 5 ≤ len) (hlen : len ≤ 2560) (hI : LI τ σ) (hif : IF_close l LI) {k9 n9 : Nat} (kk : ∀ z τ σ n, LI τ σ → SW Y k9 n9 (hL h0 z τ σ n s) 2654 [.ref 11, .ref 1000, .ref 5000, .ref 4500, .int (nI (5 * i)), xx_d, xx_d] []) : SW Y (k9 + 700) (n9 + 10000) (hL h0 z τ σ n s) 772 [.ref 11, .ref 1000, .ref 5000, .ref 4500, .int (nI (5 * i)), xx_d, xx_d] [] := by
  obtain ⟨kT, ekT⟩ : ∃ q, q = k9 + 700 := ⟨_, rfl⟩
  obtain ⟨nT, enT⟩ : ∃ q, q = n9 + 10000 := ⟨_, rfl⟩
  refine xx_wid (k' := kT) (n' := nT) (by omega) (by omega) ?_
  obtain ⟨o, σ', v, z', τ', hC, hE, hM, hI', hT, hV⟩ := hif z τ σ (xs (5 * i + 1)) hI
  refine sw_aload_n O (xx_dt dd_L_law_6 26 rfl) rfl ?_
  refine sw_aload_n O (xx_dt dd_L_law_6 27 rfl) rfl ?_
  refine sw_iload O (xx_dt dd_L_law_6 28 rfl) rfl ?_
  refine sw_iconst (x := 1) O (xx_dt dd_L_law_6 29 rfl) (by decide) ?_
  refine sw_iadd O (xx_dt dd_L_law_6 30 rfl) ?_
  rw [show nI (5 * i) + 1 = nI (5 * i + 1) from nI_plus (5 * i) 1]
  refine sw_iaload (v := .int (xs (5 * i + 1))) O (xx_dt dd_L_law_6 31 rfl) ((hL_lo (by omega)).trans h11) (pk_in (5 * i + 1) _ (by omega)) (by rw [nI_clamp (by omega)]) ?_
  refine sw_aload_n O (xx_dt dd_L_law_6 32 rfl) rfl ?_
  rw [hL_c]
  refine xx_wid (k' := (k9 + 699) + 1) (n' := (n9 + 9994) + 6) (by omega) (by omega) (sw_callSH (k := k9 + 699) (n := n9 + 9994) (k' := 1) (n' := 6) (as := [.ref 1000, .int (xs (5 * i + 1)), .ref 4500]) (st := []) (st2 := [.int (lw_k [eIAE, eISE] o)]) O (lw_close hl (hC _ ⟨h0, z, τ, n, s, hB, rfl⟩) (ly_1000 σ _) (F := fO n (sO s)) ((setC_out (by omega)).trans ((setM_out (by omega)).trans hO_4500)) hE) ch_L_close mk_L_176 st_L_close (xx_dt dd_L_law_6 33 rfl) (by decide) rfl rfl (Nat.le_of_ble_eq_true rfl) rfl ?_)
  rw [lw_g_e]
  refine sw_istore (ls2 := [.ref 11, .ref 1000, .ref 5000, .ref 4500, .int (nI (5 * i)), .int (lw_k [eIAE, eISE] o), xx_d]) O (xx_dt dd_L_law_6 34 rfl) (by decide) rfl ?_
  obtain ⟨kT, ekT⟩ : ∃ q, q = k9 + 699 := ⟨_, rfl⟩
  obtain ⟨nT, enT⟩ : ∃ q, q = n9 + 9994 := ⟨_, rfl⟩
  refine xx_wid (k' := kT) (n' := nT) (by omega) (by omega) ?_
  show SW Y _ _ (setM z τ (setC σ' (hO h0 (lw_n n o Int32.toInt64) s))) 785 [.ref 11, .ref 1000, .ref 5000, .ref 4500, .int (nI (5 * i)), .int (lw_k [eIAE, eISE] o), xx_d] []
  refine sw_aload_n O (xx_dt dd_L_law_6 35 rfl) rfl ?_
  refine sw_aload_n O (xx_dt dd_L_law_6 36 rfl) rfl ?_
  refine sw_iload O (xx_dt dd_L_law_6 37 rfl) rfl ?_
  refine sw_iconst (x := 1) O (xx_dt dd_L_law_6 38 rfl) (by decide) ?_
  refine sw_iadd O (xx_dt dd_L_law_6 39 rfl) ?_
  rw [show nI (5 * i) + 1 = nI (5 * i + 1) from nI_plus (5 * i) 1]
  refine sw_iaload (v := .int (xs (5 * i + 1))) O (xx_dt dd_L_law_6 40 rfl) ((setM_out (by omega)).trans ((setC_out (by omega)).trans ((hO_o (by omega) (by omega) (by omega)).trans h11))) (pk_in (5 * i + 1) _ (by omega)) (by rw [nI_clamp (by omega)]) ?_
  refine xx_wid (k' := (k9 + 375) + 324) (n' := (n9 + 3487) + 6507) (by omega) (by omega) (sw_callVx (k := k9 + 375) (n := n9 + 3487) (k' := 324) (n' := 6507) (as := [.int (xs (5 * i + 1))]) (st := []) (st2 := [.int v]) O (hM _ ⟨h0, σ', _, s, hB, rfl⟩) ce_X14_close ml_L_178 iv_X14_close cl_X14 rfl lm_mod (xx_dt dd_L_law_6 41 rfl) (by decide) rfl rfl (Nat.le_of_ble_eq_true rfl) rfl ?_)
  refine sw_istore (ls2 := [.ref 11, .ref 1000, .ref 5000, .ref 4500, .int (nI (5 * i)), .int (lw_k [eIAE, eISE] o), .int v]) O (xx_dt dd_L_law_6 42 rfl) (by decide) rfl ?_
  refine sw_aload_n O (xx_dt dd_L_law_6 43 rfl) rfl ?_
  obtain ⟨kT, ekT⟩ : ∃ q, q = k9 + 375 := ⟨_, rfl⟩
  obtain ⟨nT, enT⟩ : ∃ q, q = n9 + 3487 := ⟨_, rfl⟩
  refine xx_wid (k' := kT) (n' := nT) (by omega) (by omega) ?_
  refine sw_callVx (as := []) (st := []) (st2 := [.int (f_Mthrown τ')]) O (ct_X14_thrown hl (okM.bs ⟨h0, σ', _, s, hB, rfl⟩)) ce_X14_thrown ml_L_147 iv_X14_thrown cl_X14 rfl lm_mod (xx_dt dd_L_law_6 44 rfl) (by decide) rfl rfl (Nat.le_of_ble_eq_true rfl) rfl ?_
  refine sw_iload O (xx_dt dd_L_law_6 45 rfl) rfl ?_
  refine sw_icmp_eq (tgt := 808) O (xx_dt dd_L_law_6 46 rfl) (by decide) (fun _ => ?_) (fun q9 => absurd (show f_Mthrown τ' = _ from hT) q9)
  refine sw_iload O (xx_dt dd_L_law_6 49 rfl) rfl ?_
  cases o with
  | inr E =>
    refine sw_if_ne (tgt := 826) O (xx_dt dd_L_law_6 50 rfl) (by decide) (fun _ => ?_) (fun q9 => ?_)
    · refine sw_goto (tgt := 2654) O (xx_dt dd_L_law_6 59 rfl) (by decide) ?_
      refine sw_dum (ls2 := [.ref 11, .ref 1000, .ref 5000, .ref 4500, .int (nI (5 * i)), xx_d, xx_d]) ⟨.inr rfl, .inr rfl, .inr rfl, .inr rfl, .inr rfl, .inl rfl, .inl rfl, trivial⟩ ?_
      refine xx_wid (k' := k9) (n' := n9) (by omega) (by omega) ?_
      exact kk z' τ' σ' _ hI'
    · exfalso
      rcases hE E rfl with rfl | rfl
      · revert q9; decide
      · revert q9; decide
  | inl w =>
    obtain rfl := hV w rfl
    refine sw_if_ne (tgt := 826) O (xx_dt dd_L_law_6 50 rfl) (by decide) (fun q9 => absurd rfl q9) (fun _ => ?_)
    refine sw_aload_n O (xx_dt dd_L_law_6 51 rfl) rfl ?_
    refine sw_get (v := .long (Int32.toInt64 w)) O (xx_dt dd_L_law_6 52 rfl) cl_X8 fl_L_13 ((setM_out (by omega)).trans ((setC_out (by omega)).trans hO_4500)) (by decide) rfl ?_
    refine sw_iload O (xx_dt dd_L_law_6 53 rfl) rfl ?_
    refine sw_i2l O (xx_dt dd_L_law_6 54 rfl) ?_
    refine sw_lcmp O (xx_dt dd_L_law_6 55 rfl) ?_
    refine sw_if_eq (tgt := 826) O (xx_dt dd_L_law_6 56 rfl) (by decide) (fun _ => ?_) (fun q9 => absurd (lw_cmp _) q9)
    refine sw_goto (tgt := 2654) O (xx_dt dd_L_law_6 59 rfl) (by decide) ?_
    refine sw_dum (ls2 := [.ref 11, .ref 1000, .ref 5000, .ref 4500, .int (nI (5 * i)), xx_d, xx_d]) ⟨.inr rfl, .inr rfl, .inr rfl, .inr rfl, .inr rfl, .inl rfl, .inl rfl, trivial⟩ ?_
    refine xx_wid (k' := k9) (n' := n9) (by omega) (by omega) ?_
    exact kk z' τ' σ' _ hI'
theorem lc_9 {Y : XY} {l : Launch} {h0 : XH} {xs : Nat → Int32} {len i : Nat} {n : Int64} {s : Option (Nat × (Nat → Value))} {z : Int64} {τ σ : XS9} {LI : XS9 → XS9 → Prop} (O : xx_O Y m_L_law l 40) (hl : l.stackTraces = false) (hB : okB h0) (h11 : h0 11 = some (100, len, fun j => .int (xs j))) (hi : 5 * i + 5 ≤ len) (hlen : len ≤ 2560) (hI : LI τ σ) (hif : IF_offer l LI) {k9 n9 : Nat} (kk : ∀ z τ σ n, LI τ σ → SW Y k9 n9 (hL h0 z τ σ n s) 2654 [.ref 11, .ref 1000, .ref 5000, .ref 4500, .int (nI (5 * i)), xx_d, xx_d] []) : SW Y (k9 + 700) (n9 + 10000) (hL h0 z τ σ n s) 829 [.ref 11, .ref 1000, .ref 5000, .ref 4500, .int (nI (5 * i)), xx_d, xx_d] [] := by
  obtain ⟨kT, ekT⟩ : ∃ q, q = k9 + 700 := ⟨_, rfl⟩
  obtain ⟨nT, enT⟩ : ∃ q, q = n9 + 10000 := ⟨_, rfl⟩
  refine xx_wid (k' := kT) (n' := nT) (by omega) (by omega) ?_
  obtain ⟨o, σ', v, z', τ', hC, hE, hM, hI', hT, hV⟩ := hif z τ σ (xs (5 * i + 1)) (xs (5 * i + 2)) (xs (5 * i + 3)) hI
  refine sw_aload_n O (xx_dt dd_L_law_7 0 rfl) rfl ?_
  refine sw_aload_n O (xx_dt dd_L_law_7 1 rfl) rfl ?_
  refine sw_iload O (xx_dt dd_L_law_7 2 rfl) rfl ?_
  refine sw_iconst (x := 1) O (xx_dt dd_L_law_7 3 rfl) (by decide) ?_
  refine sw_iadd O (xx_dt dd_L_law_7 4 rfl) ?_
  rw [show nI (5 * i) + 1 = nI (5 * i + 1) from nI_plus (5 * i) 1]
  refine sw_iaload (v := .int (xs (5 * i + 1))) O (xx_dt dd_L_law_7 5 rfl) ((hL_lo (by omega)).trans h11) (pk_in (5 * i + 1) _ (by omega)) (by rw [nI_clamp (by omega)]) ?_
  refine sw_aload_n O (xx_dt dd_L_law_7 6 rfl) rfl ?_
  refine sw_iload O (xx_dt dd_L_law_7 7 rfl) rfl ?_
  refine sw_iconst (x := 2) O (xx_dt dd_L_law_7 8 rfl) (by decide) ?_
  refine sw_iadd O (xx_dt dd_L_law_7 9 rfl) ?_
  rw [show nI (5 * i) + 2 = nI (5 * i + 2) from nI_plus (5 * i) 2]
  refine sw_iaload (v := .int (xs (5 * i + 2))) O (xx_dt dd_L_law_7 10 rfl) ((hL_lo (by omega)).trans h11) (pk_in (5 * i + 2) _ (by omega)) (by rw [nI_clamp (by omega)]) ?_
  refine sw_aload_n O (xx_dt dd_L_law_7 11 rfl) rfl ?_
  refine sw_iload O (xx_dt dd_L_law_7 12 rfl) rfl ?_
  refine sw_iconst (x := 3) O (xx_dt dd_L_law_7 13 rfl) (by decide) ?_
  refine sw_iadd O (xx_dt dd_L_law_7 14 rfl) ?_
  rw [show nI (5 * i) + 3 = nI (5 * i + 3) from nI_plus (5 * i) 3]
  refine sw_iaload (v := .int (xs (5 * i + 3))) O (xx_dt dd_L_law_7 15 rfl) ((hL_lo (by omega)).trans h11) (pk_in (5 * i + 3) _ (by omega)) (by rw [nI_clamp (by omega)]) ?_
  refine sw_aload_n O (xx_dt dd_L_law_7 16 rfl) rfl ?_
  rw [hL_c]
  refine xx_wid (k' := (k9 + 699) + 1) (n' := (n9 + 9994) + 6) (by omega) (by omega) (sw_callSH (k := k9 + 699) (n := n9 + 9994) (k' := 1) (n' := 6) (as := [.ref 1000, .int (xs (5 * i + 1)), .int (xs (5 * i + 2)), .int (xs (5 * i + 3)), .ref 4500]) (st := []) (st2 := [.int (lw_k [eIOB, eIAE, eISE] o)]) O (lw_offer hl (hC _ ⟨h0, z, τ, n, s, hB, rfl⟩) (ly_1000 σ _) (F := fO n (sO s)) ((setC_out (by omega)).trans ((setM_out (by omega)).trans hO_4500)) hE) ch_L_offer mk_L_179 st_L_offer (xx_dt dd_L_law_7 17 rfl) (by decide) rfl rfl (Nat.le_of_ble_eq_true rfl) rfl ?_)
  rw [lw_g_e]
  refine sw_istore (ls2 := [.ref 11, .ref 1000, .ref 5000, .ref 4500, .int (nI (5 * i)), .int (lw_k [eIOB, eIAE, eISE] o), xx_d]) O (xx_dt dd_L_law_7 18 rfl) (by decide) rfl ?_
  obtain ⟨kT, ekT⟩ : ∃ q, q = k9 + 699 := ⟨_, rfl⟩
  obtain ⟨nT, enT⟩ : ∃ q, q = n9 + 9994 := ⟨_, rfl⟩
  refine xx_wid (k' := kT) (n' := nT) (by omega) (by omega) ?_
  show SW Y _ _ (setM z τ (setC σ' (hO h0 (lw_n n o Int32.toInt64) s))) 854 [.ref 11, .ref 1000, .ref 5000, .ref 4500, .int (nI (5 * i)), .int (lw_k [eIOB, eIAE, eISE] o), xx_d] []
  refine sw_aload_n O (xx_dt dd_L_law_7 19 rfl) rfl ?_
  refine sw_aload_n O (xx_dt dd_L_law_7 20 rfl) rfl ?_
  refine sw_iload O (xx_dt dd_L_law_7 21 rfl) rfl ?_
  refine sw_iconst (x := 1) O (xx_dt dd_L_law_7 22 rfl) (by decide) ?_
  refine sw_iadd O (xx_dt dd_L_law_7 23 rfl) ?_
  rw [show nI (5 * i) + 1 = nI (5 * i + 1) from nI_plus (5 * i) 1]
  refine sw_iaload (v := .int (xs (5 * i + 1))) O (xx_dt dd_L_law_7 24 rfl) ((setM_out (by omega)).trans ((setC_out (by omega)).trans ((hO_o (by omega) (by omega) (by omega)).trans h11))) (pk_in (5 * i + 1) _ (by omega)) (by rw [nI_clamp (by omega)]) ?_
  refine sw_aload_n O (xx_dt dd_L_law_7 25 rfl) rfl ?_
  refine sw_iload O (xx_dt dd_L_law_7 26 rfl) rfl ?_
  refine sw_iconst (x := 2) O (xx_dt dd_L_law_7 27 rfl) (by decide) ?_
  refine sw_iadd O (xx_dt dd_L_law_7 28 rfl) ?_
  rw [show nI (5 * i) + 2 = nI (5 * i + 2) from nI_plus (5 * i) 2]
  refine sw_iaload (v := .int (xs (5 * i + 2))) O (xx_dt dd_L_law_7 29 rfl) ((setM_out (by omega)).trans ((setC_out (by omega)).trans ((hO_o (by omega) (by omega) (by omega)).trans h11))) (pk_in (5 * i + 2) _ (by omega)) (by rw [nI_clamp (by omega)]) ?_
  refine sw_aload_n O (xx_dt dd_L_law_7 30 rfl) rfl ?_
  refine sw_iload O (xx_dt dd_L_law_7 31 rfl) rfl ?_
  refine sw_iconst (x := 3) O (xx_dt dd_L_law_7 32 rfl) (by decide) ?_
  refine sw_iadd O (xx_dt dd_L_law_7 33 rfl) ?_
  rw [show nI (5 * i) + 3 = nI (5 * i + 3) from nI_plus (5 * i) 3]
  refine sw_iaload (v := .int (xs (5 * i + 3))) O (xx_dt dd_L_law_7 34 rfl) ((setM_out (by omega)).trans ((setC_out (by omega)).trans ((hO_o (by omega) (by omega) (by omega)).trans h11))) (pk_in (5 * i + 3) _ (by omega)) (by rw [nI_clamp (by omega)]) ?_
  refine xx_wid (k' := (k9 + 695) + 4) (n' := (n9 + 9936) + 58) (by omega) (by omega) (sw_callVx (k := k9 + 695) (n := n9 + 9936) (k' := 4) (n' := 58) (as := [.int (xs (5 * i + 1)), .int (xs (5 * i + 2)), .int (xs (5 * i + 3))]) (st := []) (st2 := [.int v]) O (hM _ ⟨h0, σ', _, s, hB, rfl⟩) ce_X14_offer ml_L_181 iv_X14_offer cl_X14 rfl lm_mod (xx_dt dd_L_law_7 35 rfl) (by decide) rfl rfl (Nat.le_of_ble_eq_true rfl) rfl ?_)
  refine sw_istore (ls2 := [.ref 11, .ref 1000, .ref 5000, .ref 4500, .int (nI (5 * i)), .int (lw_k [eIOB, eIAE, eISE] o), .int v]) O (xx_dt dd_L_law_7 36 rfl) (by decide) rfl ?_
  refine sw_aload_n O (xx_dt dd_L_law_7 37 rfl) rfl ?_
  obtain ⟨kT, ekT⟩ : ∃ q, q = k9 + 695 := ⟨_, rfl⟩
  obtain ⟨nT, enT⟩ : ∃ q, q = n9 + 9936 := ⟨_, rfl⟩
  refine xx_wid (k' := kT) (n' := nT) (by omega) (by omega) ?_
  refine sw_callVx (as := []) (st := []) (st2 := [.int (f_Mthrown τ')]) O (ct_X14_thrown hl (okM.bs ⟨h0, σ', _, s, hB, rfl⟩)) ce_X14_thrown ml_L_147 iv_X14_thrown cl_X14 rfl lm_mod (xx_dt dd_L_law_7 38 rfl) (by decide) rfl rfl (Nat.le_of_ble_eq_true rfl) rfl ?_
  refine sw_iload O (xx_dt dd_L_law_7 39 rfl) rfl ?_
  refine sw_icmp_eq (tgt := 889) O (xx_dt dd_L_law_7 40 rfl) (by decide) (fun _ => ?_) (fun q9 => absurd (show f_Mthrown τ' = _ from hT) q9)
  refine sw_iload O (xx_dt dd_L_law_7 43 rfl) rfl ?_
  cases o with
  | inr E =>
    refine sw_if_ne (tgt := 907) O (xx_dt dd_L_law_7 44 rfl) (by decide) (fun _ => ?_) (fun q9 => ?_)
    · refine sw_goto (tgt := 2654) O (xx_dt dd_L_law_7 53 rfl) (by decide) ?_
      refine sw_dum (ls2 := [.ref 11, .ref 1000, .ref 5000, .ref 4500, .int (nI (5 * i)), xx_d, xx_d]) ⟨.inr rfl, .inr rfl, .inr rfl, .inr rfl, .inr rfl, .inl rfl, .inl rfl, trivial⟩ ?_
      refine xx_wid (k' := k9) (n' := n9) (by omega) (by omega) ?_
      exact kk z' τ' σ' _ hI'
    · exfalso
      rcases hE E rfl with rfl | rfl | rfl
      · revert q9; decide
      · revert q9; decide
      · revert q9; decide
  | inl w =>
    obtain rfl := hV w rfl
    refine sw_if_ne (tgt := 907) O (xx_dt dd_L_law_7 44 rfl) (by decide) (fun q9 => absurd rfl q9) (fun _ => ?_)
    refine sw_aload_n O (xx_dt dd_L_law_7 45 rfl) rfl ?_
    refine sw_get (v := .long (Int32.toInt64 w)) O (xx_dt dd_L_law_7 46 rfl) cl_X8 fl_L_13 ((setM_out (by omega)).trans ((setC_out (by omega)).trans hO_4500)) (by decide) rfl ?_
    refine sw_iload O (xx_dt dd_L_law_7 47 rfl) rfl ?_
    refine sw_i2l O (xx_dt dd_L_law_7 48 rfl) ?_
    refine sw_lcmp O (xx_dt dd_L_law_7 49 rfl) ?_
    refine sw_if_eq (tgt := 907) O (xx_dt dd_L_law_7 50 rfl) (by decide) (fun _ => ?_) (fun q9 => absurd (lw_cmp _) q9)
    refine sw_goto (tgt := 2654) O (xx_dt dd_L_law_7 53 rfl) (by decide) ?_
    refine sw_dum (ls2 := [.ref 11, .ref 1000, .ref 5000, .ref 4500, .int (nI (5 * i)), xx_d, xx_d]) ⟨.inr rfl, .inr rfl, .inr rfl, .inr rfl, .inr rfl, .inl rfl, .inl rfl, trivial⟩ ?_
    refine xx_wid (k' := k9) (n' := n9) (by omega) (by omega) ?_
    exact kk z' τ' σ' _ hI'
theorem lc_10 {Y : XY} {l : Launch} {h0 : XH} {xs : Nat → Int32} {len i : Nat} {n : Int64} {s : Option (Nat × (Nat → Value))} {z : Int64} {τ σ : XS9} {LI : XS9 → XS9 → Prop} (O : xx_O Y m_L_law l 40) (hl : l.stackTraces = false) (hB : okB h0) (h11 : h0 11 = some (100, len, fun j => .int (xs j))) (hi : 5 * i + 5 ≤ len) (hlen : len ≤ 2560) (hI : LI τ σ) (hif : IF_settle l LI) {k9 n9 : Nat} (kk : ∀ z τ σ n, LI τ σ → SW Y k9 n9 (hL h0 z τ σ n s) 2654 [.ref 11, .ref 1000, .ref 5000, .ref 4500, .int (nI (5 * i)), xx_d, xx_d] []) : SW Y (k9 + 700) (n9 + 10000) (hL h0 z τ σ n s) 910 [.ref 11, .ref 1000, .ref 5000, .ref 4500, .int (nI (5 * i)), xx_d, xx_d] [] := by
  obtain ⟨kT, ekT⟩ : ∃ q, q = k9 + 700 := ⟨_, rfl⟩
  obtain ⟨nT, enT⟩ : ∃ q, q = n9 + 10000 := ⟨_, rfl⟩
  refine xx_wid (k' := kT) (n' := nT) (by omega) (by omega) ?_
  obtain ⟨o, σ', v, z', τ', hC, hE, hM, hI', hT, hV⟩ := hif z τ σ (xs (5 * i + 1)) hI
  refine sw_aload_n O (xx_dt dd_L_law_7 54 rfl) rfl ?_
  refine sw_aload_n O (xx_dt dd_L_law_7 55 rfl) rfl ?_
  refine sw_iload O (xx_dt dd_L_law_7 56 rfl) rfl ?_
  refine sw_iconst (x := 1) O (xx_dt dd_L_law_7 57 rfl) (by decide) ?_
  refine sw_iadd O (xx_dt dd_L_law_7 58 rfl) ?_
  rw [show nI (5 * i) + 1 = nI (5 * i + 1) from nI_plus (5 * i) 1]
  refine sw_iaload (v := .int (xs (5 * i + 1))) O (xx_dt dd_L_law_7 59 rfl) ((hL_lo (by omega)).trans h11) (pk_in (5 * i + 1) _ (by omega)) (by rw [nI_clamp (by omega)]) ?_
  refine sw_aload_n O (xx_dt dd_L_law_8 0 rfl) rfl ?_
  rw [hL_c]
  refine xx_wid (k' := (k9 + 699) + 1) (n' := (n9 + 9994) + 6) (by omega) (by omega) (sw_callSH (k := k9 + 699) (n := n9 + 9994) (k' := 1) (n' := 6) (as := [.ref 1000, .int (xs (5 * i + 1)), .ref 4500]) (st := []) (st2 := [.int (lw_k [eIAE, eISE] o)]) O (lw_settle hl (hC _ ⟨h0, z, τ, n, s, hB, rfl⟩) (ly_1000 σ _) (F := fO n (sO s)) ((setC_out (by omega)).trans ((setM_out (by omega)).trans hO_4500)) hE) ch_L_settle mk_L_182 st_L_settle (xx_dt dd_L_law_8 1 rfl) (by decide) rfl rfl (Nat.le_of_ble_eq_true rfl) rfl ?_)
  rw [lw_g_e]
  refine sw_istore (ls2 := [.ref 11, .ref 1000, .ref 5000, .ref 4500, .int (nI (5 * i)), .int (lw_k [eIAE, eISE] o), xx_d]) O (xx_dt dd_L_law_8 2 rfl) (by decide) rfl ?_
  obtain ⟨kT, ekT⟩ : ∃ q, q = k9 + 699 := ⟨_, rfl⟩
  obtain ⟨nT, enT⟩ : ∃ q, q = n9 + 9994 := ⟨_, rfl⟩
  refine xx_wid (k' := kT) (n' := nT) (by omega) (by omega) ?_
  show SW Y _ _ (setM z τ (setC σ' (hO h0 (lw_n n o Int32.toInt64) s))) 923 [.ref 11, .ref 1000, .ref 5000, .ref 4500, .int (nI (5 * i)), .int (lw_k [eIAE, eISE] o), xx_d] []
  refine sw_aload_n O (xx_dt dd_L_law_8 3 rfl) rfl ?_
  refine sw_aload_n O (xx_dt dd_L_law_8 4 rfl) rfl ?_
  refine sw_iload O (xx_dt dd_L_law_8 5 rfl) rfl ?_
  refine sw_iconst (x := 1) O (xx_dt dd_L_law_8 6 rfl) (by decide) ?_
  refine sw_iadd O (xx_dt dd_L_law_8 7 rfl) ?_
  rw [show nI (5 * i) + 1 = nI (5 * i + 1) from nI_plus (5 * i) 1]
  refine sw_iaload (v := .int (xs (5 * i + 1))) O (xx_dt dd_L_law_8 8 rfl) ((setM_out (by omega)).trans ((setC_out (by omega)).trans ((hO_o (by omega) (by omega) (by omega)).trans h11))) (pk_in (5 * i + 1) _ (by omega)) (by rw [nI_clamp (by omega)]) ?_
  refine xx_wid (k' := (k9 + 692) + 7) (n' := (n9 + 9880) + 114) (by omega) (by omega) (sw_callVx (k := k9 + 692) (n := n9 + 9880) (k' := 7) (n' := 114) (as := [.int (xs (5 * i + 1))]) (st := []) (st2 := [.int v]) O (hM _ ⟨h0, σ', _, s, hB, rfl⟩) ce_X14_settle ml_L_184 iv_X14_settle cl_X14 rfl lm_mod (xx_dt dd_L_law_8 9 rfl) (by decide) rfl rfl (Nat.le_of_ble_eq_true rfl) rfl ?_)
  refine sw_istore (ls2 := [.ref 11, .ref 1000, .ref 5000, .ref 4500, .int (nI (5 * i)), .int (lw_k [eIAE, eISE] o), .int v]) O (xx_dt dd_L_law_8 10 rfl) (by decide) rfl ?_
  refine sw_aload_n O (xx_dt dd_L_law_8 11 rfl) rfl ?_
  obtain ⟨kT, ekT⟩ : ∃ q, q = k9 + 692 := ⟨_, rfl⟩
  obtain ⟨nT, enT⟩ : ∃ q, q = n9 + 9880 := ⟨_, rfl⟩
  refine xx_wid (k' := kT) (n' := nT) (by omega) (by omega) ?_
  refine sw_callVx (as := []) (st := []) (st2 := [.int (f_Mthrown τ')]) O (ct_X14_thrown hl (okM.bs ⟨h0, σ', _, s, hB, rfl⟩)) ce_X14_thrown ml_L_147 iv_X14_thrown cl_X14 rfl lm_mod (xx_dt dd_L_law_8 12 rfl) (by decide) rfl rfl (Nat.le_of_ble_eq_true rfl) rfl ?_
  refine sw_iload O (xx_dt dd_L_law_8 13 rfl) rfl ?_
  refine sw_icmp_eq (tgt := 946) O (xx_dt dd_L_law_8 14 rfl) (by decide) (fun _ => ?_) (fun q9 => absurd (show f_Mthrown τ' = _ from hT) q9)
  refine sw_iload O (xx_dt dd_L_law_8 17 rfl) rfl ?_
  cases o with
  | inr E =>
    refine sw_if_ne (tgt := 964) O (xx_dt dd_L_law_8 18 rfl) (by decide) (fun _ => ?_) (fun q9 => ?_)
    · refine sw_goto (tgt := 2654) O (xx_dt dd_L_law_8 27 rfl) (by decide) ?_
      refine sw_dum (ls2 := [.ref 11, .ref 1000, .ref 5000, .ref 4500, .int (nI (5 * i)), xx_d, xx_d]) ⟨.inr rfl, .inr rfl, .inr rfl, .inr rfl, .inr rfl, .inl rfl, .inl rfl, trivial⟩ ?_
      refine xx_wid (k' := k9) (n' := n9) (by omega) (by omega) ?_
      exact kk z' τ' σ' _ hI'
    · exfalso
      rcases hE E rfl with rfl | rfl
      · revert q9; decide
      · revert q9; decide
  | inl w =>
    obtain rfl := hV w rfl
    refine sw_if_ne (tgt := 964) O (xx_dt dd_L_law_8 18 rfl) (by decide) (fun q9 => absurd rfl q9) (fun _ => ?_)
    refine sw_aload_n O (xx_dt dd_L_law_8 19 rfl) rfl ?_
    refine sw_get (v := .long (Int32.toInt64 w)) O (xx_dt dd_L_law_8 20 rfl) cl_X8 fl_L_13 ((setM_out (by omega)).trans ((setC_out (by omega)).trans hO_4500)) (by decide) rfl ?_
    refine sw_iload O (xx_dt dd_L_law_8 21 rfl) rfl ?_
    refine sw_i2l O (xx_dt dd_L_law_8 22 rfl) ?_
    refine sw_lcmp O (xx_dt dd_L_law_8 23 rfl) ?_
    refine sw_if_eq (tgt := 964) O (xx_dt dd_L_law_8 24 rfl) (by decide) (fun _ => ?_) (fun q9 => absurd (lw_cmp _) q9)
    refine sw_goto (tgt := 2654) O (xx_dt dd_L_law_8 27 rfl) (by decide) ?_
    refine sw_dum (ls2 := [.ref 11, .ref 1000, .ref 5000, .ref 4500, .int (nI (5 * i)), xx_d, xx_d]) ⟨.inr rfl, .inr rfl, .inr rfl, .inr rfl, .inr rfl, .inl rfl, .inl rfl, trivial⟩ ?_
    refine xx_wid (k' := k9) (n' := n9) (by omega) (by omega) ?_
    exact kk z' τ' σ' _ hI'
theorem lc_11 {Y : XY} {l : Launch} {h0 : XH} {xs : Nat → Int32} {len i : Nat} {n : Int64} {s : Option (Nat × (Nat → Value))} {z : Int64} {τ σ : XS9} {LI : XS9 → XS9 → Prop} (O : xx_O Y m_L_law l 40) (hl : l.stackTraces = false) (hB : okB h0) (h11 : h0 11 = some (100, len, fun j => .int (xs j))) (hi : 5 * i + 5 ≤ len) (hlen : len ≤ 2560) (hI : LI τ σ) (hif : IF_fail l LI) {k9 n9 : Nat} (kk : ∀ z τ σ n, LI τ σ → SW Y k9 n9 (hL h0 z τ σ n s) 2654 [.ref 11, .ref 1000, .ref 5000, .ref 4500, .int (nI (5 * i)), xx_d, xx_d] []) : SW Y (k9 + 700) (n9 + 10000) (hL h0 z τ σ n s) 967 [.ref 11, .ref 1000, .ref 5000, .ref 4500, .int (nI (5 * i)), xx_d, xx_d] [] := by
  obtain ⟨kT, ekT⟩ : ∃ q, q = k9 + 700 := ⟨_, rfl⟩
  obtain ⟨nT, enT⟩ : ∃ q, q = n9 + 10000 := ⟨_, rfl⟩
  refine xx_wid (k' := kT) (n' := nT) (by omega) (by omega) ?_
  obtain ⟨o, σ', v, z', τ', hC, hE, hM, hI', hT, hV⟩ := hif z τ σ (xs (5 * i + 1)) hI
  refine sw_aload_n O (xx_dt dd_L_law_8 28 rfl) rfl ?_
  refine sw_aload_n O (xx_dt dd_L_law_8 29 rfl) rfl ?_
  refine sw_iload O (xx_dt dd_L_law_8 30 rfl) rfl ?_
  refine sw_iconst (x := 1) O (xx_dt dd_L_law_8 31 rfl) (by decide) ?_
  refine sw_iadd O (xx_dt dd_L_law_8 32 rfl) ?_
  rw [show nI (5 * i) + 1 = nI (5 * i + 1) from nI_plus (5 * i) 1]
  refine sw_iaload (v := .int (xs (5 * i + 1))) O (xx_dt dd_L_law_8 33 rfl) ((hL_lo (by omega)).trans h11) (pk_in (5 * i + 1) _ (by omega)) (by rw [nI_clamp (by omega)]) ?_
  refine sw_aload_n O (xx_dt dd_L_law_8 34 rfl) rfl ?_
  rw [hL_c]
  refine xx_wid (k' := (k9 + 699) + 1) (n' := (n9 + 9994) + 6) (by omega) (by omega) (sw_callSH (k := k9 + 699) (n := n9 + 9994) (k' := 1) (n' := 6) (as := [.ref 1000, .int (xs (5 * i + 1)), .ref 4500]) (st := []) (st2 := [.int (lw_k [eIOB, eISE] o)]) O (lw_fail hl (hC _ ⟨h0, z, τ, n, s, hB, rfl⟩) (ly_1000 σ _) (F := fO n (sO s)) ((setC_out (by omega)).trans ((setM_out (by omega)).trans hO_4500)) hE) ch_L_fail mk_L_185 st_L_fail (xx_dt dd_L_law_8 35 rfl) (by decide) rfl rfl (Nat.le_of_ble_eq_true rfl) rfl ?_)
  rw [lw_g_e]
  refine sw_istore (ls2 := [.ref 11, .ref 1000, .ref 5000, .ref 4500, .int (nI (5 * i)), .int (lw_k [eIOB, eISE] o), xx_d]) O (xx_dt dd_L_law_8 36 rfl) (by decide) rfl ?_
  obtain ⟨kT, ekT⟩ : ∃ q, q = k9 + 699 := ⟨_, rfl⟩
  obtain ⟨nT, enT⟩ : ∃ q, q = n9 + 9994 := ⟨_, rfl⟩
  refine xx_wid (k' := kT) (n' := nT) (by omega) (by omega) ?_
  show SW Y _ _ (setM z τ (setC σ' (hO h0 (lw_n n o Int32.toInt64) s))) 980 [.ref 11, .ref 1000, .ref 5000, .ref 4500, .int (nI (5 * i)), .int (lw_k [eIOB, eISE] o), xx_d] []
  refine sw_aload_n O (xx_dt dd_L_law_8 37 rfl) rfl ?_
  refine sw_aload_n O (xx_dt dd_L_law_8 38 rfl) rfl ?_
  refine sw_iload O (xx_dt dd_L_law_8 39 rfl) rfl ?_
  refine sw_iconst (x := 1) O (xx_dt dd_L_law_8 40 rfl) (by decide) ?_
  refine sw_iadd O (xx_dt dd_L_law_8 41 rfl) ?_
  rw [show nI (5 * i) + 1 = nI (5 * i + 1) from nI_plus (5 * i) 1]
  refine sw_iaload (v := .int (xs (5 * i + 1))) O (xx_dt dd_L_law_8 42 rfl) ((setM_out (by omega)).trans ((setC_out (by omega)).trans ((hO_o (by omega) (by omega) (by omega)).trans h11))) (pk_in (5 * i + 1) _ (by omega)) (by rw [nI_clamp (by omega)]) ?_
  refine xx_wid (k' := (k9 + 692) + 7) (n' := (n9 + 9880) + 114) (by omega) (by omega) (sw_callVx (k := k9 + 692) (n := n9 + 9880) (k' := 7) (n' := 114) (as := [.int (xs (5 * i + 1))]) (st := []) (st2 := [.int v]) O (hM _ ⟨h0, σ', _, s, hB, rfl⟩) ce_X14_fail ml_L_187 iv_X14_fail cl_X14 rfl lm_mod (xx_dt dd_L_law_8 43 rfl) (by decide) rfl rfl (Nat.le_of_ble_eq_true rfl) rfl ?_)
  refine sw_istore (ls2 := [.ref 11, .ref 1000, .ref 5000, .ref 4500, .int (nI (5 * i)), .int (lw_k [eIOB, eISE] o), .int v]) O (xx_dt dd_L_law_8 44 rfl) (by decide) rfl ?_
  refine sw_aload_n O (xx_dt dd_L_law_8 45 rfl) rfl ?_
  obtain ⟨kT, ekT⟩ : ∃ q, q = k9 + 692 := ⟨_, rfl⟩
  obtain ⟨nT, enT⟩ : ∃ q, q = n9 + 9880 := ⟨_, rfl⟩
  refine xx_wid (k' := kT) (n' := nT) (by omega) (by omega) ?_
  refine sw_callVx (as := []) (st := []) (st2 := [.int (f_Mthrown τ')]) O (ct_X14_thrown hl (okM.bs ⟨h0, σ', _, s, hB, rfl⟩)) ce_X14_thrown ml_L_147 iv_X14_thrown cl_X14 rfl lm_mod (xx_dt dd_L_law_8 46 rfl) (by decide) rfl rfl (Nat.le_of_ble_eq_true rfl) rfl ?_
  refine sw_iload O (xx_dt dd_L_law_8 47 rfl) rfl ?_
  refine sw_icmp_eq (tgt := 1003) O (xx_dt dd_L_law_8 48 rfl) (by decide) (fun _ => ?_) (fun q9 => absurd (show f_Mthrown τ' = _ from hT) q9)
  refine sw_iload O (xx_dt dd_L_law_8 51 rfl) rfl ?_
  cases o with
  | inr E =>
    refine sw_if_ne (tgt := 1021) O (xx_dt dd_L_law_8 52 rfl) (by decide) (fun _ => ?_) (fun q9 => ?_)
    · refine sw_goto (tgt := 2654) O (xx_dt dd_L_law_9 1 rfl) (by decide) ?_
      refine sw_dum (ls2 := [.ref 11, .ref 1000, .ref 5000, .ref 4500, .int (nI (5 * i)), xx_d, xx_d]) ⟨.inr rfl, .inr rfl, .inr rfl, .inr rfl, .inr rfl, .inl rfl, .inl rfl, trivial⟩ ?_
      refine xx_wid (k' := k9) (n' := n9) (by omega) (by omega) ?_
      exact kk z' τ' σ' _ hI'
    · exfalso
      rcases hE E rfl with rfl | rfl
      · revert q9; decide
      · revert q9; decide
  | inl w =>
    obtain rfl := hV w rfl
    refine sw_if_ne (tgt := 1021) O (xx_dt dd_L_law_8 52 rfl) (by decide) (fun q9 => absurd rfl q9) (fun _ => ?_)
    refine sw_aload_n O (xx_dt dd_L_law_8 53 rfl) rfl ?_
    refine sw_get (v := .long (Int32.toInt64 w)) O (xx_dt dd_L_law_8 54 rfl) cl_X8 fl_L_13 ((setM_out (by omega)).trans ((setC_out (by omega)).trans hO_4500)) (by decide) rfl ?_
    refine sw_iload O (xx_dt dd_L_law_8 55 rfl) rfl ?_
    refine sw_i2l O (xx_dt dd_L_law_8 56 rfl) ?_
    refine sw_lcmp O (xx_dt dd_L_law_8 57 rfl) ?_
    refine sw_if_eq (tgt := 1021) O (xx_dt dd_L_law_8 58 rfl) (by decide) (fun _ => ?_) (fun q9 => absurd (lw_cmp _) q9)
    refine sw_goto (tgt := 2654) O (xx_dt dd_L_law_9 1 rfl) (by decide) ?_
    refine sw_dum (ls2 := [.ref 11, .ref 1000, .ref 5000, .ref 4500, .int (nI (5 * i)), xx_d, xx_d]) ⟨.inr rfl, .inr rfl, .inr rfl, .inr rfl, .inr rfl, .inl rfl, .inl rfl, trivial⟩ ?_
    refine xx_wid (k' := k9) (n' := n9) (by omega) (by omega) ?_
    exact kk z' τ' σ' _ hI'
theorem lc_12 {Y : XY} {l : Launch} {h0 : XH} {xs : Nat → Int32} {len i : Nat} {n : Int64} {s : Option (Nat × (Nat → Value))} {z : Int64} {τ σ : XS9} {LI : XS9 → XS9 → Prop} (O : xx_O Y m_L_law l 40) (hl : l.stackTraces = false) (hB : okB h0) (h11 : h0 11 = some (100, len, fun j => .int (xs j))) (hi : 5 * i + 5 ≤ len) (hlen : len ≤ 2560) (hI : LI τ σ) (hif : IF_station l LI) {k9 n9 : Nat} (kk : ∀ z τ σ n, LI τ σ → SW Y k9 n9 (hL h0 z τ σ n s) 2654 [.ref 11, .ref 1000, .ref 5000, .ref 4500, .int (nI (5 * i)), xx_d, xx_d] []) : SW Y (k9 + 700) (n9 + 10000) (hL h0 z τ σ n s) 1024 [.ref 11, .ref 1000, .ref 5000, .ref 4500, .int (nI (5 * i)), xx_d, xx_d] [] := by
  obtain ⟨kT, ekT⟩ : ∃ q, q = k9 + 700 := ⟨_, rfl⟩
  obtain ⟨nT, enT⟩ : ∃ q, q = n9 + 10000 := ⟨_, rfl⟩
  refine xx_wid (k' := kT) (n' := nT) (by omega) (by omega) ?_
  obtain ⟨o, σ', v, z', τ', hC, hE, hM, hI', hT, hV⟩ := hif z τ σ (xs (5 * i + 1)) (xs (5 * i + 2)) hI
  refine sw_aload_n O (xx_dt dd_L_law_9 2 rfl) rfl ?_
  refine sw_aload_n O (xx_dt dd_L_law_9 3 rfl) rfl ?_
  refine sw_iload O (xx_dt dd_L_law_9 4 rfl) rfl ?_
  refine sw_iconst (x := 1) O (xx_dt dd_L_law_9 5 rfl) (by decide) ?_
  refine sw_iadd O (xx_dt dd_L_law_9 6 rfl) ?_
  rw [show nI (5 * i) + 1 = nI (5 * i + 1) from nI_plus (5 * i) 1]
  refine sw_iaload (v := .int (xs (5 * i + 1))) O (xx_dt dd_L_law_9 7 rfl) ((hL_lo (by omega)).trans h11) (pk_in (5 * i + 1) _ (by omega)) (by rw [nI_clamp (by omega)]) ?_
  refine sw_aload_n O (xx_dt dd_L_law_9 8 rfl) rfl ?_
  refine sw_iload O (xx_dt dd_L_law_9 9 rfl) rfl ?_
  refine sw_iconst (x := 2) O (xx_dt dd_L_law_9 10 rfl) (by decide) ?_
  refine sw_iadd O (xx_dt dd_L_law_9 11 rfl) ?_
  rw [show nI (5 * i) + 2 = nI (5 * i + 2) from nI_plus (5 * i) 2]
  refine sw_iaload (v := .int (xs (5 * i + 2))) O (xx_dt dd_L_law_9 12 rfl) ((hL_lo (by omega)).trans h11) (pk_in (5 * i + 2) _ (by omega)) (by rw [nI_clamp (by omega)]) ?_
  refine sw_aload_n O (xx_dt dd_L_law_9 13 rfl) rfl ?_
  rw [hL_c]
  refine xx_wid (k' := (k9 + 699) + 1) (n' := (n9 + 9994) + 6) (by omega) (by omega) (sw_callSH (k := k9 + 699) (n := n9 + 9994) (k' := 1) (n' := 6) (as := [.ref 1000, .int (xs (5 * i + 1)), .int (xs (5 * i + 2)), .ref 4500]) (st := []) (st2 := [.int (lw_k [eIOB, eIAE, eISE] o)]) O (lw_station hl (hC _ ⟨h0, z, τ, n, s, hB, rfl⟩) (ly_1000 σ _) (F := fO n (sO s)) ((setC_out (by omega)).trans ((setM_out (by omega)).trans hO_4500)) hE) ch_L_station mk_L_188 st_L_station (xx_dt dd_L_law_9 14 rfl) (by decide) rfl rfl (Nat.le_of_ble_eq_true rfl) rfl ?_)
  rw [lw_g_e]
  refine sw_istore (ls2 := [.ref 11, .ref 1000, .ref 5000, .ref 4500, .int (nI (5 * i)), .int (lw_k [eIOB, eIAE, eISE] o), xx_d]) O (xx_dt dd_L_law_9 15 rfl) (by decide) rfl ?_
  obtain ⟨kT, ekT⟩ : ∃ q, q = k9 + 699 := ⟨_, rfl⟩
  obtain ⟨nT, enT⟩ : ∃ q, q = n9 + 9994 := ⟨_, rfl⟩
  refine xx_wid (k' := kT) (n' := nT) (by omega) (by omega) ?_
  show SW Y _ _ (setM z τ (setC σ' (hO h0 (lw_n n o Int32.toInt64) s))) 1043 [.ref 11, .ref 1000, .ref 5000, .ref 4500, .int (nI (5 * i)), .int (lw_k [eIOB, eIAE, eISE] o), xx_d] []
  refine sw_aload_n O (xx_dt dd_L_law_9 16 rfl) rfl ?_
  refine sw_aload_n O (xx_dt dd_L_law_9 17 rfl) rfl ?_
  refine sw_iload O (xx_dt dd_L_law_9 18 rfl) rfl ?_
  refine sw_iconst (x := 1) O (xx_dt dd_L_law_9 19 rfl) (by decide) ?_
  refine sw_iadd O (xx_dt dd_L_law_9 20 rfl) ?_
  rw [show nI (5 * i) + 1 = nI (5 * i + 1) from nI_plus (5 * i) 1]
  refine sw_iaload (v := .int (xs (5 * i + 1))) O (xx_dt dd_L_law_9 21 rfl) ((setM_out (by omega)).trans ((setC_out (by omega)).trans ((hO_o (by omega) (by omega) (by omega)).trans h11))) (pk_in (5 * i + 1) _ (by omega)) (by rw [nI_clamp (by omega)]) ?_
  refine sw_aload_n O (xx_dt dd_L_law_9 22 rfl) rfl ?_
  refine sw_iload O (xx_dt dd_L_law_9 23 rfl) rfl ?_
  refine sw_iconst (x := 2) O (xx_dt dd_L_law_9 24 rfl) (by decide) ?_
  refine sw_iadd O (xx_dt dd_L_law_9 25 rfl) ?_
  rw [show nI (5 * i) + 2 = nI (5 * i + 2) from nI_plus (5 * i) 2]
  refine sw_iaload (v := .int (xs (5 * i + 2))) O (xx_dt dd_L_law_9 26 rfl) ((setM_out (by omega)).trans ((setC_out (by omega)).trans ((hO_o (by omega) (by omega) (by omega)).trans h11))) (pk_in (5 * i + 2) _ (by omega)) (by rw [nI_clamp (by omega)]) ?_
  refine xx_wid (k' := (k9 + 695) + 4) (n' := (n9 + 9904) + 90) (by omega) (by omega) (sw_callVx (k := k9 + 695) (n := n9 + 9904) (k' := 4) (n' := 90) (as := [.int (xs (5 * i + 1)), .int (xs (5 * i + 2))]) (st := []) (st2 := [.int v]) O (hM _ ⟨h0, σ', _, s, hB, rfl⟩) ce_X14_station ml_L_190 iv_X14_station cl_X14 rfl lm_mod (xx_dt dd_L_law_9 27 rfl) (by decide) rfl rfl (Nat.le_of_ble_eq_true rfl) rfl ?_)
  refine sw_istore (ls2 := [.ref 11, .ref 1000, .ref 5000, .ref 4500, .int (nI (5 * i)), .int (lw_k [eIOB, eIAE, eISE] o), .int v]) O (xx_dt dd_L_law_9 28 rfl) (by decide) rfl ?_
  refine sw_aload_n O (xx_dt dd_L_law_9 29 rfl) rfl ?_
  obtain ⟨kT, ekT⟩ : ∃ q, q = k9 + 695 := ⟨_, rfl⟩
  obtain ⟨nT, enT⟩ : ∃ q, q = n9 + 9904 := ⟨_, rfl⟩
  refine xx_wid (k' := kT) (n' := nT) (by omega) (by omega) ?_
  refine sw_callVx (as := []) (st := []) (st2 := [.int (f_Mthrown τ')]) O (ct_X14_thrown hl (okM.bs ⟨h0, σ', _, s, hB, rfl⟩)) ce_X14_thrown ml_L_147 iv_X14_thrown cl_X14 rfl lm_mod (xx_dt dd_L_law_9 30 rfl) (by decide) rfl rfl (Nat.le_of_ble_eq_true rfl) rfl ?_
  refine sw_iload O (xx_dt dd_L_law_9 31 rfl) rfl ?_
  refine sw_icmp_eq (tgt := 1072) O (xx_dt dd_L_law_9 32 rfl) (by decide) (fun _ => ?_) (fun q9 => absurd (show f_Mthrown τ' = _ from hT) q9)
  refine sw_iload O (xx_dt dd_L_law_9 35 rfl) rfl ?_
  cases o with
  | inr E =>
    refine sw_if_ne (tgt := 1090) O (xx_dt dd_L_law_9 36 rfl) (by decide) (fun _ => ?_) (fun q9 => ?_)
    · refine sw_goto (tgt := 2654) O (xx_dt dd_L_law_9 45 rfl) (by decide) ?_
      refine sw_dum (ls2 := [.ref 11, .ref 1000, .ref 5000, .ref 4500, .int (nI (5 * i)), xx_d, xx_d]) ⟨.inr rfl, .inr rfl, .inr rfl, .inr rfl, .inr rfl, .inl rfl, .inl rfl, trivial⟩ ?_
      refine xx_wid (k' := k9) (n' := n9) (by omega) (by omega) ?_
      exact kk z' τ' σ' _ hI'
    · exfalso
      rcases hE E rfl with rfl | rfl | rfl
      · revert q9; decide
      · revert q9; decide
      · revert q9; decide
  | inl w =>
    obtain rfl := hV w rfl
    refine sw_if_ne (tgt := 1090) O (xx_dt dd_L_law_9 36 rfl) (by decide) (fun q9 => absurd rfl q9) (fun _ => ?_)
    refine sw_aload_n O (xx_dt dd_L_law_9 37 rfl) rfl ?_
    refine sw_get (v := .long (Int32.toInt64 w)) O (xx_dt dd_L_law_9 38 rfl) cl_X8 fl_L_13 ((setM_out (by omega)).trans ((setC_out (by omega)).trans hO_4500)) (by decide) rfl ?_
    refine sw_iload O (xx_dt dd_L_law_9 39 rfl) rfl ?_
    refine sw_i2l O (xx_dt dd_L_law_9 40 rfl) ?_
    refine sw_lcmp O (xx_dt dd_L_law_9 41 rfl) ?_
    refine sw_if_eq (tgt := 1090) O (xx_dt dd_L_law_9 42 rfl) (by decide) (fun _ => ?_) (fun q9 => absurd (lw_cmp _) q9)
    refine sw_goto (tgt := 2654) O (xx_dt dd_L_law_9 45 rfl) (by decide) ?_
    refine sw_dum (ls2 := [.ref 11, .ref 1000, .ref 5000, .ref 4500, .int (nI (5 * i)), xx_d, xx_d]) ⟨.inr rfl, .inr rfl, .inr rfl, .inr rfl, .inr rfl, .inl rfl, .inl rfl, trivial⟩ ?_
    refine xx_wid (k' := k9) (n' := n9) (by omega) (by omega) ?_
    exact kk z' τ' σ' _ hI'
theorem lc_14 {Y : XY} {l : Launch} {h0 : XH} {xs : Nat → Int32} {len i : Nat} {n : Int64} {s : Option (Nat × (Nat → Value))} {z : Int64} {τ σ : XS9} {LI : XS9 → XS9 → Prop} (O : xx_O Y m_L_law l 40) (hl : l.stackTraces = false) (hB : okB h0) (h11 : h0 11 = some (100, len, fun j => .int (xs j))) (hi : 5 * i + 5 ≤ len) (hlen : len ≤ 2560) (hI : LI τ σ) (hif : IF_packs l LI) {k9 n9 : Nat} (kk : ∀ z τ σ n, LI τ σ → SW Y k9 n9 (hL h0 z τ σ n s) 2654 [.ref 11, .ref 1000, .ref 5000, .ref 4500, .int (nI (5 * i)), xx_d, xx_d] []) : SW Y (k9 + 700) (n9 + 10000) (hL h0 z τ σ n s) 1162 [.ref 11, .ref 1000, .ref 5000, .ref 4500, .int (nI (5 * i)), xx_d, xx_d] [] := by
  obtain ⟨kT, ekT⟩ : ∃ q, q = k9 + 700 := ⟨_, rfl⟩
  obtain ⟨nT, enT⟩ : ∃ q, q = n9 + 10000 := ⟨_, rfl⟩
  refine xx_wid (k' := kT) (n' := nT) (by omega) (by omega) ?_
  obtain ⟨o, σ', v, z', τ', hC, hE, hM, hI', hT, hV⟩ := hif z τ σ (xs (5 * i + 1)) (xs (5 * i + 2)) hI
  refine sw_aload_n O (xx_dt dd_L_law_10 30 rfl) rfl ?_
  refine sw_aload_n O (xx_dt dd_L_law_10 31 rfl) rfl ?_
  refine sw_iload O (xx_dt dd_L_law_10 32 rfl) rfl ?_
  refine sw_iconst (x := 1) O (xx_dt dd_L_law_10 33 rfl) (by decide) ?_
  refine sw_iadd O (xx_dt dd_L_law_10 34 rfl) ?_
  rw [show nI (5 * i) + 1 = nI (5 * i + 1) from nI_plus (5 * i) 1]
  refine sw_iaload (v := .int (xs (5 * i + 1))) O (xx_dt dd_L_law_10 35 rfl) ((hL_lo (by omega)).trans h11) (pk_in (5 * i + 1) _ (by omega)) (by rw [nI_clamp (by omega)]) ?_
  refine sw_aload_n O (xx_dt dd_L_law_10 36 rfl) rfl ?_
  refine sw_iload O (xx_dt dd_L_law_10 37 rfl) rfl ?_
  refine sw_iconst (x := 2) O (xx_dt dd_L_law_10 38 rfl) (by decide) ?_
  refine sw_iadd O (xx_dt dd_L_law_10 39 rfl) ?_
  rw [show nI (5 * i) + 2 = nI (5 * i + 2) from nI_plus (5 * i) 2]
  refine sw_iaload (v := .int (xs (5 * i + 2))) O (xx_dt dd_L_law_10 40 rfl) ((hL_lo (by omega)).trans h11) (pk_in (5 * i + 2) _ (by omega)) (by rw [nI_clamp (by omega)]) ?_
  refine sw_aload_n O (xx_dt dd_L_law_10 41 rfl) rfl ?_
  rw [hL_c]
  refine xx_wid (k' := (k9 + 699) + 1) (n' := (n9 + 9994) + 6) (by omega) (by omega) (sw_callSH (k := k9 + 699) (n := n9 + 9994) (k' := 1) (n' := 6) (as := [.ref 1000, .int (xs (5 * i + 1)), .int (xs (5 * i + 2)), .ref 4500]) (st := []) (st2 := [.int (lw_k [eIAE] o)]) O (lw_packs hl (hC _ ⟨h0, z, τ, n, s, hB, rfl⟩) (ly_1000 σ _) (F := fO n (sO s)) ((setC_out (by omega)).trans ((setM_out (by omega)).trans hO_4500)) hE) ch_L_packs mk_L_194 st_L_packs (xx_dt dd_L_law_10 42 rfl) (by decide) rfl rfl (Nat.le_of_ble_eq_true rfl) rfl ?_)
  rw [lw_g_e]
  refine sw_istore (ls2 := [.ref 11, .ref 1000, .ref 5000, .ref 4500, .int (nI (5 * i)), .int (lw_k [eIAE] o), xx_d]) O (xx_dt dd_L_law_10 43 rfl) (by decide) rfl ?_
  obtain ⟨kT, ekT⟩ : ∃ q, q = k9 + 699 := ⟨_, rfl⟩
  obtain ⟨nT, enT⟩ : ∃ q, q = n9 + 9994 := ⟨_, rfl⟩
  refine xx_wid (k' := kT) (n' := nT) (by omega) (by omega) ?_
  show SW Y _ _ (setM z τ (setC σ' (hO h0 (lw_n n o (fun v => lw_B v)) s))) 1181 [.ref 11, .ref 1000, .ref 5000, .ref 4500, .int (nI (5 * i)), .int (lw_k [eIAE] o), xx_d] []
  refine sw_aload_n O (xx_dt dd_L_law_10 44 rfl) rfl ?_
  refine sw_aload_n O (xx_dt dd_L_law_10 45 rfl) rfl ?_
  refine sw_iload O (xx_dt dd_L_law_10 46 rfl) rfl ?_
  refine sw_iconst (x := 1) O (xx_dt dd_L_law_10 47 rfl) (by decide) ?_
  refine sw_iadd O (xx_dt dd_L_law_10 48 rfl) ?_
  rw [show nI (5 * i) + 1 = nI (5 * i + 1) from nI_plus (5 * i) 1]
  refine sw_iaload (v := .int (xs (5 * i + 1))) O (xx_dt dd_L_law_10 49 rfl) ((setM_out (by omega)).trans ((setC_out (by omega)).trans ((hO_o (by omega) (by omega) (by omega)).trans h11))) (pk_in (5 * i + 1) _ (by omega)) (by rw [nI_clamp (by omega)]) ?_
  refine sw_aload_n O (xx_dt dd_L_law_10 50 rfl) rfl ?_
  refine sw_iload O (xx_dt dd_L_law_10 51 rfl) rfl ?_
  refine sw_iconst (x := 2) O (xx_dt dd_L_law_10 52 rfl) (by decide) ?_
  refine sw_iadd O (xx_dt dd_L_law_10 53 rfl) ?_
  rw [show nI (5 * i) + 2 = nI (5 * i + 2) from nI_plus (5 * i) 2]
  refine sw_iaload (v := .int (xs (5 * i + 2))) O (xx_dt dd_L_law_10 54 rfl) ((setM_out (by omega)).trans ((setC_out (by omega)).trans ((hO_o (by omega) (by omega) (by omega)).trans h11))) (pk_in (5 * i + 2) _ (by omega)) (by rw [nI_clamp (by omega)]) ?_
  refine xx_wid (k' := (k9 + 698) + 1) (n' := (n9 + 9988) + 6) (by omega) (by omega) (sw_callVx (k := k9 + 698) (n := n9 + 9988) (k' := 1) (n' := 6) (as := [.int (xs (5 * i + 1)), .int (xs (5 * i + 2))]) (st := []) (st2 := [.int v]) O (hM _ ⟨h0, σ', _, s, hB, rfl⟩) ce_X14_packs ml_L_196 iv_X14_packs cl_X14 rfl lm_mod (xx_dt dd_L_law_10 55 rfl) (by decide) rfl rfl (Nat.le_of_ble_eq_true rfl) rfl ?_)
  refine sw_istore (ls2 := [.ref 11, .ref 1000, .ref 5000, .ref 4500, .int (nI (5 * i)), .int (lw_k [eIAE] o), .int v]) O (xx_dt dd_L_law_10 56 rfl) (by decide) rfl ?_
  refine sw_aload_n O (xx_dt dd_L_law_10 57 rfl) rfl ?_
  obtain ⟨kT, ekT⟩ : ∃ q, q = k9 + 698 := ⟨_, rfl⟩
  obtain ⟨nT, enT⟩ : ∃ q, q = n9 + 9988 := ⟨_, rfl⟩
  refine xx_wid (k' := kT) (n' := nT) (by omega) (by omega) ?_
  refine sw_callVx (as := []) (st := []) (st2 := [.int (f_Mthrown τ')]) O (ct_X14_thrown hl (okM.bs ⟨h0, σ', _, s, hB, rfl⟩)) ce_X14_thrown ml_L_147 iv_X14_thrown cl_X14 rfl lm_mod (xx_dt dd_L_law_10 58 rfl) (by decide) rfl rfl (Nat.le_of_ble_eq_true rfl) rfl ?_
  refine sw_iload O (xx_dt dd_L_law_10 59 rfl) rfl ?_
  refine sw_icmp_eq (tgt := 1210) O (xx_dt dd_L_law_11 0 rfl) (by decide) (fun _ => ?_) (fun q9 => absurd (show f_Mthrown τ' = _ from hT) q9)
  refine sw_iload O (xx_dt dd_L_law_11 3 rfl) rfl ?_
  cases o with
  | inr E =>
    refine sw_if_ne (tgt := 1235) O (xx_dt dd_L_law_11 4 rfl) (by decide) (fun _ => ?_) (fun q9 => ?_)
    · refine sw_goto (tgt := 2654) O (xx_dt dd_L_law_11 16 rfl) (by decide) ?_
      refine sw_dum (ls2 := [.ref 11, .ref 1000, .ref 5000, .ref 4500, .int (nI (5 * i)), xx_d, xx_d]) ⟨.inr rfl, .inr rfl, .inr rfl, .inr rfl, .inr rfl, .inl rfl, .inl rfl, trivial⟩ ?_
      refine xx_wid (k' := k9) (n' := n9) (by omega) (by omega) ?_
      exact kk z' τ' σ' _ hI'
    · exfalso
      rcases hE E rfl with rfl
      · revert q9; decide
  | inl w =>
    obtain rfl := hV w rfl
    refine sw_if_ne (tgt := 1235) O (xx_dt dd_L_law_11 4 rfl) (by decide) (fun q9 => absurd rfl q9) (fun _ => ?_)
    refine sw_aload_n O (xx_dt dd_L_law_11 5 rfl) rfl ?_
    refine sw_get (v := .long (lw_B w)) O (xx_dt dd_L_law_11 6 rfl) cl_X8 fl_L_13 ((setM_out (by omega)).trans ((setC_out (by omega)).trans hO_4500)) (by decide) rfl ?_
    refine sw_iload O (xx_dt dd_L_law_11 7 rfl) rfl ?_
    by_cases qB : w = 0
    · refine sw_if_eq (tgt := 1228) O (xx_dt dd_L_law_11 8 rfl) (by decide) (fun _ => ?_) (fun q9 => absurd qB q9)
      refine sw_lconst O (xx_dt dd_L_law_11 11 rfl) ?_
      rw [show lw_B w = Int64.ofNat (0 : Fin 2) from if_pos qB]
      refine sw_lcmp O (xx_dt dd_L_law_11 12 rfl) ?_
      refine sw_if_eq (tgt := 1235) O (xx_dt dd_L_law_11 13 rfl) (by decide) (fun _ => ?_) (fun q9 => absurd (lw_cmp _) q9)
      refine sw_goto (tgt := 2654) O (xx_dt dd_L_law_11 16 rfl) (by decide) ?_
      refine sw_dum (ls2 := [.ref 11, .ref 1000, .ref 5000, .ref 4500, .int (nI (5 * i)), xx_d, xx_d]) ⟨.inr rfl, .inr rfl, .inr rfl, .inr rfl, .inr rfl, .inl rfl, .inl rfl, trivial⟩ ?_
      refine xx_wid (k' := k9) (n' := n9) (by omega) (by omega) ?_
      exact kk z' τ' σ' _ hI'
    · refine sw_if_eq (tgt := 1228) O (xx_dt dd_L_law_11 8 rfl) (by decide) (fun q9 => absurd q9 qB) (fun _ => ?_)
      refine sw_lconst O (xx_dt dd_L_law_11 9 rfl) ?_
      rw [show lw_B w = Int64.ofNat (1 : Fin 2) from if_neg qB]
      refine sw_goto (tgt := 1229) O (xx_dt dd_L_law_11 10 rfl) (by decide) ?_
      refine sw_lcmp O (xx_dt dd_L_law_11 12 rfl) ?_
      refine sw_if_eq (tgt := 1235) O (xx_dt dd_L_law_11 13 rfl) (by decide) (fun _ => ?_) (fun q9 => absurd (lw_cmp _) q9)
      refine sw_goto (tgt := 2654) O (xx_dt dd_L_law_11 16 rfl) (by decide) ?_
      refine sw_dum (ls2 := [.ref 11, .ref 1000, .ref 5000, .ref 4500, .int (nI (5 * i)), xx_d, xx_d]) ⟨.inr rfl, .inr rfl, .inr rfl, .inr rfl, .inr rfl, .inl rfl, .inl rfl, trivial⟩ ?_
      refine xx_wid (k' := k9) (n' := n9) (by omega) (by omega) ?_
      exact kk z' τ' σ' _ hI'
theorem lc_15 {Y : XY} {l : Launch} {h0 : XH} {xs : Nat → Int32} {len i : Nat} {n : Int64} {s : Option (Nat × (Nat → Value))} {z : Int64} {τ σ : XS9} {LI : XS9 → XS9 → Prop} (O : xx_O Y m_L_law l 40) (hl : l.stackTraces = false) (hB : okB h0) (h11 : h0 11 = some (100, len, fun j => .int (xs j))) (hi : 5 * i + 5 ≤ len) (hlen : len ≤ 2560) (hI : LI τ σ) (hif : IF_channel l LI) {k9 n9 : Nat} (kk : ∀ z τ σ n, LI τ σ → SW Y k9 n9 (hL h0 z τ σ n s) 2654 [.ref 11, .ref 1000, .ref 5000, .ref 4500, .int (nI (5 * i)), xx_d, xx_d] []) : SW Y (k9 + 700) (n9 + 10000) (hL h0 z τ σ n s) 1238 [.ref 11, .ref 1000, .ref 5000, .ref 4500, .int (nI (5 * i)), xx_d, xx_d] [] := by
  obtain ⟨kT, ekT⟩ : ∃ q, q = k9 + 700 := ⟨_, rfl⟩
  obtain ⟨nT, enT⟩ : ∃ q, q = n9 + 10000 := ⟨_, rfl⟩
  refine xx_wid (k' := kT) (n' := nT) (by omega) (by omega) ?_
  obtain ⟨o, σ', v, z', τ', hC, hE, hM, hI', hT, hV⟩ := hif z τ σ (xs (5 * i + 1)) (xs (5 * i + 2)) (xs (5 * i + 3)) hI
  refine sw_aload_n O (xx_dt dd_L_law_11 17 rfl) rfl ?_
  refine sw_aload_n O (xx_dt dd_L_law_11 18 rfl) rfl ?_
  refine sw_iload O (xx_dt dd_L_law_11 19 rfl) rfl ?_
  refine sw_iconst (x := 1) O (xx_dt dd_L_law_11 20 rfl) (by decide) ?_
  refine sw_iadd O (xx_dt dd_L_law_11 21 rfl) ?_
  rw [show nI (5 * i) + 1 = nI (5 * i + 1) from nI_plus (5 * i) 1]
  refine sw_iaload (v := .int (xs (5 * i + 1))) O (xx_dt dd_L_law_11 22 rfl) ((hL_lo (by omega)).trans h11) (pk_in (5 * i + 1) _ (by omega)) (by rw [nI_clamp (by omega)]) ?_
  refine sw_aload_n O (xx_dt dd_L_law_11 23 rfl) rfl ?_
  refine sw_iload O (xx_dt dd_L_law_11 24 rfl) rfl ?_
  refine sw_iconst (x := 2) O (xx_dt dd_L_law_11 25 rfl) (by decide) ?_
  refine sw_iadd O (xx_dt dd_L_law_11 26 rfl) ?_
  rw [show nI (5 * i) + 2 = nI (5 * i + 2) from nI_plus (5 * i) 2]
  refine sw_iaload (v := .int (xs (5 * i + 2))) O (xx_dt dd_L_law_11 27 rfl) ((hL_lo (by omega)).trans h11) (pk_in (5 * i + 2) _ (by omega)) (by rw [nI_clamp (by omega)]) ?_
  refine sw_aload_n O (xx_dt dd_L_law_11 28 rfl) rfl ?_
  refine sw_iload O (xx_dt dd_L_law_11 29 rfl) rfl ?_
  refine sw_iconst (x := 3) O (xx_dt dd_L_law_11 30 rfl) (by decide) ?_
  refine sw_iadd O (xx_dt dd_L_law_11 31 rfl) ?_
  rw [show nI (5 * i) + 3 = nI (5 * i + 3) from nI_plus (5 * i) 3]
  refine sw_iaload (v := .int (xs (5 * i + 3))) O (xx_dt dd_L_law_11 32 rfl) ((hL_lo (by omega)).trans h11) (pk_in (5 * i + 3) _ (by omega)) (by rw [nI_clamp (by omega)]) ?_
  refine sw_aload_n O (xx_dt dd_L_law_11 33 rfl) rfl ?_
  rw [hL_c]
  refine xx_wid (k' := (k9 + 699) + 1) (n' := (n9 + 9994) + 6) (by omega) (by omega) (sw_callSH (k := k9 + 699) (n := n9 + 9994) (k' := 1) (n' := 6) (as := [.ref 1000, .int (xs (5 * i + 1)), .int (xs (5 * i + 2)), .int (xs (5 * i + 3)), .ref 4500]) (st := []) (st2 := [.int (lw_k [eIOB, eIAE] o)]) O (lw_channel hl (hC _ ⟨h0, z, τ, n, s, hB, rfl⟩) (ly_1000 σ _) (F := fO n (sO s)) ((setC_out (by omega)).trans ((setM_out (by omega)).trans hO_4500)) hE) ch_L_channel mk_L_197 st_L_channel (xx_dt dd_L_law_11 34 rfl) (by decide) rfl rfl (Nat.le_of_ble_eq_true rfl) rfl ?_)
  rw [lw_g_e]
  refine sw_istore (ls2 := [.ref 11, .ref 1000, .ref 5000, .ref 4500, .int (nI (5 * i)), .int (lw_k [eIOB, eIAE] o), xx_d]) O (xx_dt dd_L_law_11 35 rfl) (by decide) rfl ?_
  obtain ⟨kT, ekT⟩ : ∃ q, q = k9 + 699 := ⟨_, rfl⟩
  obtain ⟨nT, enT⟩ : ∃ q, q = n9 + 9994 := ⟨_, rfl⟩
  refine xx_wid (k' := kT) (n' := nT) (by omega) (by omega) ?_
  show SW Y _ _ (setM z τ (setC σ' (hO h0 (lw_n n o Int32.toInt64) s))) 1263 [.ref 11, .ref 1000, .ref 5000, .ref 4500, .int (nI (5 * i)), .int (lw_k [eIOB, eIAE] o), xx_d] []
  refine sw_aload_n O (xx_dt dd_L_law_11 36 rfl) rfl ?_
  refine sw_aload_n O (xx_dt dd_L_law_11 37 rfl) rfl ?_
  refine sw_iload O (xx_dt dd_L_law_11 38 rfl) rfl ?_
  refine sw_iconst (x := 1) O (xx_dt dd_L_law_11 39 rfl) (by decide) ?_
  refine sw_iadd O (xx_dt dd_L_law_11 40 rfl) ?_
  rw [show nI (5 * i) + 1 = nI (5 * i + 1) from nI_plus (5 * i) 1]
  refine sw_iaload (v := .int (xs (5 * i + 1))) O (xx_dt dd_L_law_11 41 rfl) ((setM_out (by omega)).trans ((setC_out (by omega)).trans ((hO_o (by omega) (by omega) (by omega)).trans h11))) (pk_in (5 * i + 1) _ (by omega)) (by rw [nI_clamp (by omega)]) ?_
  refine sw_aload_n O (xx_dt dd_L_law_11 42 rfl) rfl ?_
  refine sw_iload O (xx_dt dd_L_law_11 43 rfl) rfl ?_
  refine sw_iconst (x := 2) O (xx_dt dd_L_law_11 44 rfl) (by decide) ?_
  refine sw_iadd O (xx_dt dd_L_law_11 45 rfl) ?_
  rw [show nI (5 * i) + 2 = nI (5 * i + 2) from nI_plus (5 * i) 2]
  refine sw_iaload (v := .int (xs (5 * i + 2))) O (xx_dt dd_L_law_11 46 rfl) ((setM_out (by omega)).trans ((setC_out (by omega)).trans ((hO_o (by omega) (by omega) (by omega)).trans h11))) (pk_in (5 * i + 2) _ (by omega)) (by rw [nI_clamp (by omega)]) ?_
  refine sw_aload_n O (xx_dt dd_L_law_11 47 rfl) rfl ?_
  refine sw_iload O (xx_dt dd_L_law_11 48 rfl) rfl ?_
  refine sw_iconst (x := 3) O (xx_dt dd_L_law_11 49 rfl) (by decide) ?_
  refine sw_iadd O (xx_dt dd_L_law_11 50 rfl) ?_
  rw [show nI (5 * i) + 3 = nI (5 * i + 3) from nI_plus (5 * i) 3]
  refine sw_iaload (v := .int (xs (5 * i + 3))) O (xx_dt dd_L_law_11 51 rfl) ((setM_out (by omega)).trans ((setC_out (by omega)).trans ((hO_o (by omega) (by omega) (by omega)).trans h11))) (pk_in (5 * i + 3) _ (by omega)) (by rw [nI_clamp (by omega)]) ?_
  refine xx_wid (k' := (k9 + 698) + 1) (n' := (n9 + 9988) + 6) (by omega) (by omega) (sw_callVx (k := k9 + 698) (n := n9 + 9988) (k' := 1) (n' := 6) (as := [.int (xs (5 * i + 1)), .int (xs (5 * i + 2)), .int (xs (5 * i + 3))]) (st := []) (st2 := [.int v]) O (hM _ ⟨h0, σ', _, s, hB, rfl⟩) ce_X14_channel ml_L_199 iv_X14_channel cl_X14 rfl lm_mod (xx_dt dd_L_law_11 52 rfl) (by decide) rfl rfl (Nat.le_of_ble_eq_true rfl) rfl ?_)
  refine sw_istore (ls2 := [.ref 11, .ref 1000, .ref 5000, .ref 4500, .int (nI (5 * i)), .int (lw_k [eIOB, eIAE] o), .int v]) O (xx_dt dd_L_law_11 53 rfl) (by decide) rfl ?_
  refine sw_aload_n O (xx_dt dd_L_law_11 54 rfl) rfl ?_
  obtain ⟨kT, ekT⟩ : ∃ q, q = k9 + 698 := ⟨_, rfl⟩
  obtain ⟨nT, enT⟩ : ∃ q, q = n9 + 9988 := ⟨_, rfl⟩
  refine xx_wid (k' := kT) (n' := nT) (by omega) (by omega) ?_
  refine sw_callVx (as := []) (st := []) (st2 := [.int (f_Mthrown τ')]) O (ct_X14_thrown hl (okM.bs ⟨h0, σ', _, s, hB, rfl⟩)) ce_X14_thrown ml_L_147 iv_X14_thrown cl_X14 rfl lm_mod (xx_dt dd_L_law_11 55 rfl) (by decide) rfl rfl (Nat.le_of_ble_eq_true rfl) rfl ?_
  refine sw_iload O (xx_dt dd_L_law_11 56 rfl) rfl ?_
  refine sw_icmp_eq (tgt := 1298) O (xx_dt dd_L_law_11 57 rfl) (by decide) (fun _ => ?_) (fun q9 => absurd (show f_Mthrown τ' = _ from hT) q9)
  refine sw_iload O (xx_dt dd_L_law_12 0 rfl) rfl ?_
  cases o with
  | inr E =>
    refine sw_if_ne (tgt := 1316) O (xx_dt dd_L_law_12 1 rfl) (by decide) (fun _ => ?_) (fun q9 => ?_)
    · refine sw_goto (tgt := 2654) O (xx_dt dd_L_law_12 10 rfl) (by decide) ?_
      refine sw_dum (ls2 := [.ref 11, .ref 1000, .ref 5000, .ref 4500, .int (nI (5 * i)), xx_d, xx_d]) ⟨.inr rfl, .inr rfl, .inr rfl, .inr rfl, .inr rfl, .inl rfl, .inl rfl, trivial⟩ ?_
      refine xx_wid (k' := k9) (n' := n9) (by omega) (by omega) ?_
      exact kk z' τ' σ' _ hI'
    · exfalso
      rcases hE E rfl with rfl | rfl
      · revert q9; decide
      · revert q9; decide
  | inl w =>
    obtain rfl := hV w rfl
    refine sw_if_ne (tgt := 1316) O (xx_dt dd_L_law_12 1 rfl) (by decide) (fun q9 => absurd rfl q9) (fun _ => ?_)
    refine sw_aload_n O (xx_dt dd_L_law_12 2 rfl) rfl ?_
    refine sw_get (v := .long (Int32.toInt64 w)) O (xx_dt dd_L_law_12 3 rfl) cl_X8 fl_L_13 ((setM_out (by omega)).trans ((setC_out (by omega)).trans hO_4500)) (by decide) rfl ?_
    refine sw_iload O (xx_dt dd_L_law_12 4 rfl) rfl ?_
    refine sw_i2l O (xx_dt dd_L_law_12 5 rfl) ?_
    refine sw_lcmp O (xx_dt dd_L_law_12 6 rfl) ?_
    refine sw_if_eq (tgt := 1316) O (xx_dt dd_L_law_12 7 rfl) (by decide) (fun _ => ?_) (fun q9 => absurd (lw_cmp _) q9)
    refine sw_goto (tgt := 2654) O (xx_dt dd_L_law_12 10 rfl) (by decide) ?_
    refine sw_dum (ls2 := [.ref 11, .ref 1000, .ref 5000, .ref 4500, .int (nI (5 * i)), xx_d, xx_d]) ⟨.inr rfl, .inr rfl, .inr rfl, .inr rfl, .inr rfl, .inl rfl, .inl rfl, trivial⟩ ?_
    refine xx_wid (k' := k9) (n' := n9) (by omega) (by omega) ?_
    exact kk z' τ' σ' _ hI'
theorem lc_16 {Y : XY} {l : Launch} {h0 : XH} {xs : Nat → Int32} {len i : Nat} {n : Int64} {s : Option (Nat × (Nat → Value))} {z : Int64} {τ σ : XS9} {LI : XS9 → XS9 → Prop} (O : xx_O Y m_L_law l 40) (hl : l.stackTraces = false) (hB : okB h0) (h11 : h0 11 = some (100, len, fun j => .int (xs j))) (hi : 5 * i + 5 ≤ len) (hlen : len ≤ 2560) (hI : LI τ σ) (hif : IF_clear l LI) {k9 n9 : Nat} (kk : ∀ z τ σ n, LI τ σ → SW Y k9 n9 (hL h0 z τ σ n s) 2654 [.ref 11, .ref 1000, .ref 5000, .ref 4500, .int (nI (5 * i)), xx_d, xx_d] []) : SW Y (k9 + 700) (n9 + 10000) (hL h0 z τ σ n s) 1319 [.ref 11, .ref 1000, .ref 5000, .ref 4500, .int (nI (5 * i)), xx_d, xx_d] [] := by
  obtain ⟨kT, ekT⟩ : ∃ q, q = k9 + 700 := ⟨_, rfl⟩
  obtain ⟨nT, enT⟩ : ∃ q, q = n9 + 10000 := ⟨_, rfl⟩
  refine xx_wid (k' := kT) (n' := nT) (by omega) (by omega) ?_
  obtain ⟨o, σ', v, z', τ', hC, hE, hM, hI', hT, hV⟩ := hif z τ σ (xs (5 * i + 1)) hI
  refine sw_aload_n O (xx_dt dd_L_law_12 11 rfl) rfl ?_
  refine sw_aload_n O (xx_dt dd_L_law_12 12 rfl) rfl ?_
  refine sw_iload O (xx_dt dd_L_law_12 13 rfl) rfl ?_
  refine sw_iconst (x := 1) O (xx_dt dd_L_law_12 14 rfl) (by decide) ?_
  refine sw_iadd O (xx_dt dd_L_law_12 15 rfl) ?_
  rw [show nI (5 * i) + 1 = nI (5 * i + 1) from nI_plus (5 * i) 1]
  refine sw_iaload (v := .int (xs (5 * i + 1))) O (xx_dt dd_L_law_12 16 rfl) ((hL_lo (by omega)).trans h11) (pk_in (5 * i + 1) _ (by omega)) (by rw [nI_clamp (by omega)]) ?_
  refine sw_aload_n O (xx_dt dd_L_law_12 17 rfl) rfl ?_
  rw [hL_c]
  refine xx_wid (k' := (k9 + 699) + 1) (n' := (n9 + 9994) + 6) (by omega) (by omega) (sw_callSH (k := k9 + 699) (n := n9 + 9994) (k' := 1) (n' := 6) (as := [.ref 1000, .int (xs (5 * i + 1)), .ref 4500]) (st := []) (st2 := [.int (lw_k [eIAE] o)]) O (lw_clear hl (hC _ ⟨h0, z, τ, n, s, hB, rfl⟩) (ly_1000 σ _) (F := fO n (sO s)) ((setC_out (by omega)).trans ((setM_out (by omega)).trans hO_4500)) hE) ch_L_clear mk_L_200 st_L_clear (xx_dt dd_L_law_12 18 rfl) (by decide) rfl rfl (Nat.le_of_ble_eq_true rfl) rfl ?_)
  rw [lw_g_e]
  refine sw_istore (ls2 := [.ref 11, .ref 1000, .ref 5000, .ref 4500, .int (nI (5 * i)), .int (lw_k [eIAE] o), xx_d]) O (xx_dt dd_L_law_12 19 rfl) (by decide) rfl ?_
  obtain ⟨kT, ekT⟩ : ∃ q, q = k9 + 699 := ⟨_, rfl⟩
  obtain ⟨nT, enT⟩ : ∃ q, q = n9 + 9994 := ⟨_, rfl⟩
  refine xx_wid (k' := kT) (n' := nT) (by omega) (by omega) ?_
  show SW Y _ _ (setM z τ (setC σ' (hO h0 (lw_n n o Int32.toInt64) s))) 1332 [.ref 11, .ref 1000, .ref 5000, .ref 4500, .int (nI (5 * i)), .int (lw_k [eIAE] o), xx_d] []
  refine sw_aload_n O (xx_dt dd_L_law_12 20 rfl) rfl ?_
  refine sw_aload_n O (xx_dt dd_L_law_12 21 rfl) rfl ?_
  refine sw_iload O (xx_dt dd_L_law_12 22 rfl) rfl ?_
  refine sw_iconst (x := 1) O (xx_dt dd_L_law_12 23 rfl) (by decide) ?_
  refine sw_iadd O (xx_dt dd_L_law_12 24 rfl) ?_
  rw [show nI (5 * i) + 1 = nI (5 * i + 1) from nI_plus (5 * i) 1]
  refine sw_iaload (v := .int (xs (5 * i + 1))) O (xx_dt dd_L_law_12 25 rfl) ((setM_out (by omega)).trans ((setC_out (by omega)).trans ((hO_o (by omega) (by omega) (by omega)).trans h11))) (pk_in (5 * i + 1) _ (by omega)) (by rw [nI_clamp (by omega)]) ?_
  refine xx_wid (k' := (k9 + 698) + 1) (n' := (n9 + 9988) + 6) (by omega) (by omega) (sw_callVx (k := k9 + 698) (n := n9 + 9988) (k' := 1) (n' := 6) (as := [.int (xs (5 * i + 1))]) (st := []) (st2 := [.int v]) O (hM _ ⟨h0, σ', _, s, hB, rfl⟩) ce_X14_clear ml_L_202 iv_X14_clear cl_X14 rfl lm_mod (xx_dt dd_L_law_12 26 rfl) (by decide) rfl rfl (Nat.le_of_ble_eq_true rfl) rfl ?_)
  refine sw_istore (ls2 := [.ref 11, .ref 1000, .ref 5000, .ref 4500, .int (nI (5 * i)), .int (lw_k [eIAE] o), .int v]) O (xx_dt dd_L_law_12 27 rfl) (by decide) rfl ?_
  refine sw_aload_n O (xx_dt dd_L_law_12 28 rfl) rfl ?_
  obtain ⟨kT, ekT⟩ : ∃ q, q = k9 + 698 := ⟨_, rfl⟩
  obtain ⟨nT, enT⟩ : ∃ q, q = n9 + 9988 := ⟨_, rfl⟩
  refine xx_wid (k' := kT) (n' := nT) (by omega) (by omega) ?_
  refine sw_callVx (as := []) (st := []) (st2 := [.int (f_Mthrown τ')]) O (ct_X14_thrown hl (okM.bs ⟨h0, σ', _, s, hB, rfl⟩)) ce_X14_thrown ml_L_147 iv_X14_thrown cl_X14 rfl lm_mod (xx_dt dd_L_law_12 29 rfl) (by decide) rfl rfl (Nat.le_of_ble_eq_true rfl) rfl ?_
  refine sw_iload O (xx_dt dd_L_law_12 30 rfl) rfl ?_
  refine sw_icmp_eq (tgt := 1355) O (xx_dt dd_L_law_12 31 rfl) (by decide) (fun _ => ?_) (fun q9 => absurd (show f_Mthrown τ' = _ from hT) q9)
  refine sw_iload O (xx_dt dd_L_law_12 34 rfl) rfl ?_
  cases o with
  | inr E =>
    refine sw_if_ne (tgt := 1373) O (xx_dt dd_L_law_12 35 rfl) (by decide) (fun _ => ?_) (fun q9 => ?_)
    · refine sw_goto (tgt := 2654) O (xx_dt dd_L_law_12 44 rfl) (by decide) ?_
      refine sw_dum (ls2 := [.ref 11, .ref 1000, .ref 5000, .ref 4500, .int (nI (5 * i)), xx_d, xx_d]) ⟨.inr rfl, .inr rfl, .inr rfl, .inr rfl, .inr rfl, .inl rfl, .inl rfl, trivial⟩ ?_
      refine xx_wid (k' := k9) (n' := n9) (by omega) (by omega) ?_
      exact kk z' τ' σ' _ hI'
    · exfalso
      rcases hE E rfl with rfl
      · revert q9; decide
  | inl w =>
    obtain rfl := hV w rfl
    refine sw_if_ne (tgt := 1373) O (xx_dt dd_L_law_12 35 rfl) (by decide) (fun q9 => absurd rfl q9) (fun _ => ?_)
    refine sw_aload_n O (xx_dt dd_L_law_12 36 rfl) rfl ?_
    refine sw_get (v := .long (Int32.toInt64 w)) O (xx_dt dd_L_law_12 37 rfl) cl_X8 fl_L_13 ((setM_out (by omega)).trans ((setC_out (by omega)).trans hO_4500)) (by decide) rfl ?_
    refine sw_iload O (xx_dt dd_L_law_12 38 rfl) rfl ?_
    refine sw_i2l O (xx_dt dd_L_law_12 39 rfl) ?_
    refine sw_lcmp O (xx_dt dd_L_law_12 40 rfl) ?_
    refine sw_if_eq (tgt := 1373) O (xx_dt dd_L_law_12 41 rfl) (by decide) (fun _ => ?_) (fun q9 => absurd (lw_cmp _) q9)
    refine sw_goto (tgt := 2654) O (xx_dt dd_L_law_12 44 rfl) (by decide) ?_
    refine sw_dum (ls2 := [.ref 11, .ref 1000, .ref 5000, .ref 4500, .int (nI (5 * i)), xx_d, xx_d]) ⟨.inr rfl, .inr rfl, .inr rfl, .inr rfl, .inr rfl, .inl rfl, .inl rfl, trivial⟩ ?_
    refine xx_wid (k' := k9) (n' := n9) (by omega) (by omega) ?_
    exact kk z' τ' σ' _ hI'
theorem lc_17 {Y : XY} {l : Launch} {h0 : XH} {xs : Nat → Int32} {len i : Nat} {n : Int64} {s : Option (Nat × (Nat → Value))} {z : Int64} {τ σ : XS9} {LI : XS9 → XS9 → Prop} (O : xx_O Y m_L_law l 40) (hl : l.stackTraces = false) (hB : okB h0) (h11 : h0 11 = some (100, len, fun j => .int (xs j))) (hi : 5 * i + 5 ≤ len) (hlen : len ≤ 2560) (hI : LI τ σ) (hif : IF_ofRegion l LI) {k9 n9 : Nat} (kk : ∀ z τ σ n, LI τ σ → SW Y k9 n9 (hL h0 z τ σ n s) 2654 [.ref 11, .ref 1000, .ref 5000, .ref 4500, .int (nI (5 * i)), xx_d, xx_d] []) : SW Y (k9 + 700) (n9 + 10000) (hL h0 z τ σ n s) 1376 [.ref 11, .ref 1000, .ref 5000, .ref 4500, .int (nI (5 * i)), xx_d, xx_d] [] := by
  obtain ⟨kT, ekT⟩ : ∃ q, q = k9 + 700 := ⟨_, rfl⟩
  obtain ⟨nT, enT⟩ : ∃ q, q = n9 + 10000 := ⟨_, rfl⟩
  refine xx_wid (k' := kT) (n' := nT) (by omega) (by omega) ?_
  obtain ⟨o, σ', v, z', τ', hC, hE, hM, hI', hT, hV⟩ := hif z τ σ (xs (5 * i + 1)) (xs (5 * i + 2)) hI
  refine sw_aload_n O (xx_dt dd_L_law_12 45 rfl) rfl ?_
  refine sw_aload_n O (xx_dt dd_L_law_12 46 rfl) rfl ?_
  refine sw_iload O (xx_dt dd_L_law_12 47 rfl) rfl ?_
  refine sw_iconst (x := 1) O (xx_dt dd_L_law_12 48 rfl) (by decide) ?_
  refine sw_iadd O (xx_dt dd_L_law_12 49 rfl) ?_
  rw [show nI (5 * i) + 1 = nI (5 * i + 1) from nI_plus (5 * i) 1]
  refine sw_iaload (v := .int (xs (5 * i + 1))) O (xx_dt dd_L_law_12 50 rfl) ((hL_lo (by omega)).trans h11) (pk_in (5 * i + 1) _ (by omega)) (by rw [nI_clamp (by omega)]) ?_
  refine sw_aload_n O (xx_dt dd_L_law_12 51 rfl) rfl ?_
  refine sw_iload O (xx_dt dd_L_law_12 52 rfl) rfl ?_
  refine sw_iconst (x := 2) O (xx_dt dd_L_law_12 53 rfl) (by decide) ?_
  refine sw_iadd O (xx_dt dd_L_law_12 54 rfl) ?_
  rw [show nI (5 * i) + 2 = nI (5 * i + 2) from nI_plus (5 * i) 2]
  refine sw_iaload (v := .int (xs (5 * i + 2))) O (xx_dt dd_L_law_12 55 rfl) ((hL_lo (by omega)).trans h11) (pk_in (5 * i + 2) _ (by omega)) (by rw [nI_clamp (by omega)]) ?_
  refine sw_aload_n O (xx_dt dd_L_law_12 56 rfl) rfl ?_
  rw [hL_c]
  refine xx_wid (k' := (k9 + 699) + 1) (n' := (n9 + 9994) + 6) (by omega) (by omega) (sw_callSH (k := k9 + 699) (n := n9 + 9994) (k' := 1) (n' := 6) (as := [.ref 1000, .int (xs (5 * i + 1)), .int (xs (5 * i + 2)), .ref 4500]) (st := []) (st2 := [.int (lw_k [eIOB, eIAE] o)]) O (lw_ofRegion hl (hC _ ⟨h0, z, τ, n, s, hB, rfl⟩) (ly_1000 σ _) (F := fO n (sO s)) ((setC_out (by omega)).trans ((setM_out (by omega)).trans hO_4500)) hE) ch_L_ofRegion mk_L_203 st_L_ofRegion (xx_dt dd_L_law_12 57 rfl) (by decide) rfl rfl (Nat.le_of_ble_eq_true rfl) rfl ?_)
  rw [lw_g_e]
  refine sw_istore (ls2 := [.ref 11, .ref 1000, .ref 5000, .ref 4500, .int (nI (5 * i)), .int (lw_k [eIOB, eIAE] o), xx_d]) O (xx_dt dd_L_law_12 58 rfl) (by decide) rfl ?_
  obtain ⟨kT, ekT⟩ : ∃ q, q = k9 + 699 := ⟨_, rfl⟩
  obtain ⟨nT, enT⟩ : ∃ q, q = n9 + 9994 := ⟨_, rfl⟩
  refine xx_wid (k' := kT) (n' := nT) (by omega) (by omega) ?_
  show SW Y _ _ (setM z τ (setC σ' (hO h0 (lw_n n o Int32.toInt64) s))) 1395 [.ref 11, .ref 1000, .ref 5000, .ref 4500, .int (nI (5 * i)), .int (lw_k [eIOB, eIAE] o), xx_d] []
  refine sw_aload_n O (xx_dt dd_L_law_12 59 rfl) rfl ?_
  refine sw_aload_n O (xx_dt dd_L_law_13 0 rfl) rfl ?_
  refine sw_iload O (xx_dt dd_L_law_13 1 rfl) rfl ?_
  refine sw_iconst (x := 1) O (xx_dt dd_L_law_13 2 rfl) (by decide) ?_
  refine sw_iadd O (xx_dt dd_L_law_13 3 rfl) ?_
  rw [show nI (5 * i) + 1 = nI (5 * i + 1) from nI_plus (5 * i) 1]
  refine sw_iaload (v := .int (xs (5 * i + 1))) O (xx_dt dd_L_law_13 4 rfl) ((setM_out (by omega)).trans ((setC_out (by omega)).trans ((hO_o (by omega) (by omega) (by omega)).trans h11))) (pk_in (5 * i + 1) _ (by omega)) (by rw [nI_clamp (by omega)]) ?_
  refine sw_aload_n O (xx_dt dd_L_law_13 5 rfl) rfl ?_
  refine sw_iload O (xx_dt dd_L_law_13 6 rfl) rfl ?_
  refine sw_iconst (x := 2) O (xx_dt dd_L_law_13 7 rfl) (by decide) ?_
  refine sw_iadd O (xx_dt dd_L_law_13 8 rfl) ?_
  rw [show nI (5 * i) + 2 = nI (5 * i + 2) from nI_plus (5 * i) 2]
  refine sw_iaload (v := .int (xs (5 * i + 2))) O (xx_dt dd_L_law_13 9 rfl) ((setM_out (by omega)).trans ((setC_out (by omega)).trans ((hO_o (by omega) (by omega) (by omega)).trans h11))) (pk_in (5 * i + 2) _ (by omega)) (by rw [nI_clamp (by omega)]) ?_
  refine xx_wid (k' := (k9 + 699) + 0) (n' := (n9 + 9994) + 0) (by omega) (by omega) (sw_callVx (k := k9 + 699) (n := n9 + 9994) (k' := 0) (n' := 0) (as := [.int (xs (5 * i + 1)), .int (xs (5 * i + 2))]) (st := []) (st2 := [.int v]) O (hM _ ⟨h0, σ', _, s, hB, rfl⟩) ce_X14_ofRegion ml_L_205 iv_X14_ofRegion cl_X14 rfl lm_mod (xx_dt dd_L_law_13 10 rfl) (by decide) rfl rfl (Nat.le_of_ble_eq_true rfl) rfl ?_)
  refine sw_istore (ls2 := [.ref 11, .ref 1000, .ref 5000, .ref 4500, .int (nI (5 * i)), .int (lw_k [eIOB, eIAE] o), .int v]) O (xx_dt dd_L_law_13 11 rfl) (by decide) rfl ?_
  refine sw_aload_n O (xx_dt dd_L_law_13 12 rfl) rfl ?_
  obtain ⟨kT, ekT⟩ : ∃ q, q = k9 + 699 := ⟨_, rfl⟩
  obtain ⟨nT, enT⟩ : ∃ q, q = n9 + 9994 := ⟨_, rfl⟩
  refine xx_wid (k' := kT) (n' := nT) (by omega) (by omega) ?_
  refine sw_callVx (as := []) (st := []) (st2 := [.int (f_Mthrown τ')]) O (ct_X14_thrown hl (okM.bs ⟨h0, σ', _, s, hB, rfl⟩)) ce_X14_thrown ml_L_147 iv_X14_thrown cl_X14 rfl lm_mod (xx_dt dd_L_law_13 13 rfl) (by decide) rfl rfl (Nat.le_of_ble_eq_true rfl) rfl ?_
  refine sw_iload O (xx_dt dd_L_law_13 14 rfl) rfl ?_
  refine sw_icmp_eq (tgt := 1424) O (xx_dt dd_L_law_13 15 rfl) (by decide) (fun _ => ?_) (fun q9 => absurd (show f_Mthrown τ' = _ from hT) q9)
  refine sw_iload O (xx_dt dd_L_law_13 18 rfl) rfl ?_
  cases o with
  | inr E =>
    refine sw_if_ne (tgt := 1442) O (xx_dt dd_L_law_13 19 rfl) (by decide) (fun _ => ?_) (fun q9 => ?_)
    · refine sw_goto (tgt := 2654) O (xx_dt dd_L_law_13 28 rfl) (by decide) ?_
      refine sw_dum (ls2 := [.ref 11, .ref 1000, .ref 5000, .ref 4500, .int (nI (5 * i)), xx_d, xx_d]) ⟨.inr rfl, .inr rfl, .inr rfl, .inr rfl, .inr rfl, .inl rfl, .inl rfl, trivial⟩ ?_
      refine xx_wid (k' := k9) (n' := n9) (by omega) (by omega) ?_
      exact kk z' τ' σ' _ hI'
    · exfalso
      rcases hE E rfl with rfl | rfl
      · revert q9; decide
      · revert q9; decide
  | inl w =>
    obtain rfl := hV w rfl
    refine sw_if_ne (tgt := 1442) O (xx_dt dd_L_law_13 19 rfl) (by decide) (fun q9 => absurd rfl q9) (fun _ => ?_)
    refine sw_aload_n O (xx_dt dd_L_law_13 20 rfl) rfl ?_
    refine sw_get (v := .long (Int32.toInt64 w)) O (xx_dt dd_L_law_13 21 rfl) cl_X8 fl_L_13 ((setM_out (by omega)).trans ((setC_out (by omega)).trans hO_4500)) (by decide) rfl ?_
    refine sw_iload O (xx_dt dd_L_law_13 22 rfl) rfl ?_
    refine sw_i2l O (xx_dt dd_L_law_13 23 rfl) ?_
    refine sw_lcmp O (xx_dt dd_L_law_13 24 rfl) ?_
    refine sw_if_eq (tgt := 1442) O (xx_dt dd_L_law_13 25 rfl) (by decide) (fun _ => ?_) (fun q9 => absurd (lw_cmp _) q9)
    refine sw_goto (tgt := 2654) O (xx_dt dd_L_law_13 28 rfl) (by decide) ?_
    refine sw_dum (ls2 := [.ref 11, .ref 1000, .ref 5000, .ref 4500, .int (nI (5 * i)), xx_d, xx_d]) ⟨.inr rfl, .inr rfl, .inr rfl, .inr rfl, .inr rfl, .inl rfl, .inl rfl, trivial⟩ ?_
    refine xx_wid (k' := k9) (n' := n9) (by omega) (by omega) ?_
    exact kk z' τ' σ' _ hI'
theorem lc_18 {Y : XY} {l : Launch} {h0 : XH} {xs : Nat → Int32} {len i : Nat} {n : Int64} {s : Option (Nat × (Nat → Value))} {z : Int64} {τ σ : XS9} {LI : XS9 → XS9 → Prop} (O : xx_O Y m_L_law l 40) (hl : l.stackTraces = false) (hB : okB h0) (h11 : h0 11 = some (100, len, fun j => .int (xs j))) (hi : 5 * i + 5 ≤ len) (hlen : len ≤ 2560) (hI : LI τ σ) (hif : IF_ofBidder l LI) {k9 n9 : Nat} (kk : ∀ z τ σ n, LI τ σ → SW Y k9 n9 (hL h0 z τ σ n s) 2654 [.ref 11, .ref 1000, .ref 5000, .ref 4500, .int (nI (5 * i)), xx_d, xx_d] []) : SW Y (k9 + 700) (n9 + 10000) (hL h0 z τ σ n s) 1445 [.ref 11, .ref 1000, .ref 5000, .ref 4500, .int (nI (5 * i)), xx_d, xx_d] [] := by
  obtain ⟨kT, ekT⟩ : ∃ q, q = k9 + 700 := ⟨_, rfl⟩
  obtain ⟨nT, enT⟩ : ∃ q, q = n9 + 10000 := ⟨_, rfl⟩
  refine xx_wid (k' := kT) (n' := nT) (by omega) (by omega) ?_
  obtain ⟨o, σ', v, z', τ', hC, hE, hM, hI', hT, hV⟩ := hif z τ σ (xs (5 * i + 1)) (xs (5 * i + 2)) hI
  refine sw_aload_n O (xx_dt dd_L_law_13 29 rfl) rfl ?_
  refine sw_aload_n O (xx_dt dd_L_law_13 30 rfl) rfl ?_
  refine sw_iload O (xx_dt dd_L_law_13 31 rfl) rfl ?_
  refine sw_iconst (x := 1) O (xx_dt dd_L_law_13 32 rfl) (by decide) ?_
  refine sw_iadd O (xx_dt dd_L_law_13 33 rfl) ?_
  rw [show nI (5 * i) + 1 = nI (5 * i + 1) from nI_plus (5 * i) 1]
  refine sw_iaload (v := .int (xs (5 * i + 1))) O (xx_dt dd_L_law_13 34 rfl) ((hL_lo (by omega)).trans h11) (pk_in (5 * i + 1) _ (by omega)) (by rw [nI_clamp (by omega)]) ?_
  refine sw_aload_n O (xx_dt dd_L_law_13 35 rfl) rfl ?_
  refine sw_iload O (xx_dt dd_L_law_13 36 rfl) rfl ?_
  refine sw_iconst (x := 2) O (xx_dt dd_L_law_13 37 rfl) (by decide) ?_
  refine sw_iadd O (xx_dt dd_L_law_13 38 rfl) ?_
  rw [show nI (5 * i) + 2 = nI (5 * i + 2) from nI_plus (5 * i) 2]
  refine sw_iaload (v := .int (xs (5 * i + 2))) O (xx_dt dd_L_law_13 39 rfl) ((hL_lo (by omega)).trans h11) (pk_in (5 * i + 2) _ (by omega)) (by rw [nI_clamp (by omega)]) ?_
  refine sw_aload_n O (xx_dt dd_L_law_13 40 rfl) rfl ?_
  rw [hL_c]
  refine xx_wid (k' := (k9 + 699) + 1) (n' := (n9 + 9994) + 6) (by omega) (by omega) (sw_callSH (k := k9 + 699) (n := n9 + 9994) (k' := 1) (n' := 6) (as := [.ref 1000, .int (xs (5 * i + 1)), .int (xs (5 * i + 2)), .ref 4500]) (st := []) (st2 := [.int (lw_k [eIOB, eIAE] o)]) O (lw_ofBidder hl (hC _ ⟨h0, z, τ, n, s, hB, rfl⟩) (ly_1000 σ _) (F := fO n (sO s)) ((setC_out (by omega)).trans ((setM_out (by omega)).trans hO_4500)) hE) ch_L_ofBidder mk_L_206 st_L_ofBidder (xx_dt dd_L_law_13 41 rfl) (by decide) rfl rfl (Nat.le_of_ble_eq_true rfl) rfl ?_)
  rw [lw_g_e]
  refine sw_istore (ls2 := [.ref 11, .ref 1000, .ref 5000, .ref 4500, .int (nI (5 * i)), .int (lw_k [eIOB, eIAE] o), xx_d]) O (xx_dt dd_L_law_13 42 rfl) (by decide) rfl ?_
  obtain ⟨kT, ekT⟩ : ∃ q, q = k9 + 699 := ⟨_, rfl⟩
  obtain ⟨nT, enT⟩ : ∃ q, q = n9 + 9994 := ⟨_, rfl⟩
  refine xx_wid (k' := kT) (n' := nT) (by omega) (by omega) ?_
  show SW Y _ _ (setM z τ (setC σ' (hO h0 (lw_n n o Int32.toInt64) s))) 1464 [.ref 11, .ref 1000, .ref 5000, .ref 4500, .int (nI (5 * i)), .int (lw_k [eIOB, eIAE] o), xx_d] []
  refine sw_aload_n O (xx_dt dd_L_law_13 43 rfl) rfl ?_
  refine sw_aload_n O (xx_dt dd_L_law_13 44 rfl) rfl ?_
  refine sw_iload O (xx_dt dd_L_law_13 45 rfl) rfl ?_
  refine sw_iconst (x := 1) O (xx_dt dd_L_law_13 46 rfl) (by decide) ?_
  refine sw_iadd O (xx_dt dd_L_law_13 47 rfl) ?_
  rw [show nI (5 * i) + 1 = nI (5 * i + 1) from nI_plus (5 * i) 1]
  refine sw_iaload (v := .int (xs (5 * i + 1))) O (xx_dt dd_L_law_13 48 rfl) ((setM_out (by omega)).trans ((setC_out (by omega)).trans ((hO_o (by omega) (by omega) (by omega)).trans h11))) (pk_in (5 * i + 1) _ (by omega)) (by rw [nI_clamp (by omega)]) ?_
  refine sw_aload_n O (xx_dt dd_L_law_13 49 rfl) rfl ?_
  refine sw_iload O (xx_dt dd_L_law_13 50 rfl) rfl ?_
  refine sw_iconst (x := 2) O (xx_dt dd_L_law_13 51 rfl) (by decide) ?_
  refine sw_iadd O (xx_dt dd_L_law_13 52 rfl) ?_
  rw [show nI (5 * i) + 2 = nI (5 * i + 2) from nI_plus (5 * i) 2]
  refine sw_iaload (v := .int (xs (5 * i + 2))) O (xx_dt dd_L_law_13 53 rfl) ((setM_out (by omega)).trans ((setC_out (by omega)).trans ((hO_o (by omega) (by omega) (by omega)).trans h11))) (pk_in (5 * i + 2) _ (by omega)) (by rw [nI_clamp (by omega)]) ?_
  refine xx_wid (k' := (k9 + 699) + 0) (n' := (n9 + 9994) + 0) (by omega) (by omega) (sw_callVx (k := k9 + 699) (n := n9 + 9994) (k' := 0) (n' := 0) (as := [.int (xs (5 * i + 1)), .int (xs (5 * i + 2))]) (st := []) (st2 := [.int v]) O (hM _ ⟨h0, σ', _, s, hB, rfl⟩) ce_X14_ofBidder ml_L_208 iv_X14_ofBidder cl_X14 rfl lm_mod (xx_dt dd_L_law_13 54 rfl) (by decide) rfl rfl (Nat.le_of_ble_eq_true rfl) rfl ?_)
  refine sw_istore (ls2 := [.ref 11, .ref 1000, .ref 5000, .ref 4500, .int (nI (5 * i)), .int (lw_k [eIOB, eIAE] o), .int v]) O (xx_dt dd_L_law_13 55 rfl) (by decide) rfl ?_
  refine sw_aload_n O (xx_dt dd_L_law_13 56 rfl) rfl ?_
  obtain ⟨kT, ekT⟩ : ∃ q, q = k9 + 699 := ⟨_, rfl⟩
  obtain ⟨nT, enT⟩ : ∃ q, q = n9 + 9994 := ⟨_, rfl⟩
  refine xx_wid (k' := kT) (n' := nT) (by omega) (by omega) ?_
  refine sw_callVx (as := []) (st := []) (st2 := [.int (f_Mthrown τ')]) O (ct_X14_thrown hl (okM.bs ⟨h0, σ', _, s, hB, rfl⟩)) ce_X14_thrown ml_L_147 iv_X14_thrown cl_X14 rfl lm_mod (xx_dt dd_L_law_13 57 rfl) (by decide) rfl rfl (Nat.le_of_ble_eq_true rfl) rfl ?_
  refine sw_iload O (xx_dt dd_L_law_13 58 rfl) rfl ?_
  refine sw_icmp_eq (tgt := 1493) O (xx_dt dd_L_law_13 59 rfl) (by decide) (fun _ => ?_) (fun q9 => absurd (show f_Mthrown τ' = _ from hT) q9)
  refine sw_iload O (xx_dt dd_L_law_14 2 rfl) rfl ?_
  cases o with
  | inr E =>
    refine sw_if_ne (tgt := 1511) O (xx_dt dd_L_law_14 3 rfl) (by decide) (fun _ => ?_) (fun q9 => ?_)
    · refine sw_goto (tgt := 2654) O (xx_dt dd_L_law_14 12 rfl) (by decide) ?_
      refine sw_dum (ls2 := [.ref 11, .ref 1000, .ref 5000, .ref 4500, .int (nI (5 * i)), xx_d, xx_d]) ⟨.inr rfl, .inr rfl, .inr rfl, .inr rfl, .inr rfl, .inl rfl, .inl rfl, trivial⟩ ?_
      refine xx_wid (k' := k9) (n' := n9) (by omega) (by omega) ?_
      exact kk z' τ' σ' _ hI'
    · exfalso
      rcases hE E rfl with rfl | rfl
      · revert q9; decide
      · revert q9; decide
  | inl w =>
    obtain rfl := hV w rfl
    refine sw_if_ne (tgt := 1511) O (xx_dt dd_L_law_14 3 rfl) (by decide) (fun q9 => absurd rfl q9) (fun _ => ?_)
    refine sw_aload_n O (xx_dt dd_L_law_14 4 rfl) rfl ?_
    refine sw_get (v := .long (Int32.toInt64 w)) O (xx_dt dd_L_law_14 5 rfl) cl_X8 fl_L_13 ((setM_out (by omega)).trans ((setC_out (by omega)).trans hO_4500)) (by decide) rfl ?_
    refine sw_iload O (xx_dt dd_L_law_14 6 rfl) rfl ?_
    refine sw_i2l O (xx_dt dd_L_law_14 7 rfl) ?_
    refine sw_lcmp O (xx_dt dd_L_law_14 8 rfl) ?_
    refine sw_if_eq (tgt := 1511) O (xx_dt dd_L_law_14 9 rfl) (by decide) (fun _ => ?_) (fun q9 => absurd (lw_cmp _) q9)
    refine sw_goto (tgt := 2654) O (xx_dt dd_L_law_14 12 rfl) (by decide) ?_
    refine sw_dum (ls2 := [.ref 11, .ref 1000, .ref 5000, .ref 4500, .int (nI (5 * i)), xx_d, xx_d]) ⟨.inr rfl, .inr rfl, .inr rfl, .inr rfl, .inr rfl, .inl rfl, .inl rfl, trivial⟩ ?_
    refine xx_wid (k' := k9) (n' := n9) (by omega) (by omega) ?_
    exact kk z' τ' σ' _ hI'
theorem lc_19 {Y : XY} {l : Launch} {h0 : XH} {xs : Nat → Int32} {len i : Nat} {n : Int64} {s : Option (Nat × (Nat → Value))} {z : Int64} {τ σ : XS9} {LI : XS9 → XS9 → Prop} (O : xx_O Y m_L_law l 40) (hl : l.stackTraces = false) (hB : okB h0) (h11 : h0 11 = some (100, len, fun j => .int (xs j))) (hi : 5 * i + 5 ≤ len) (hlen : len ≤ 2560) (hI : LI τ σ) (hif : IF_wants l LI) {k9 n9 : Nat} (kk : ∀ z τ σ n, LI τ σ → SW Y k9 n9 (hL h0 z τ σ n s) 2654 [.ref 11, .ref 1000, .ref 5000, .ref 4500, .int (nI (5 * i)), xx_d, xx_d] []) : SW Y (k9 + 700) (n9 + 10000) (hL h0 z τ σ n s) 1514 [.ref 11, .ref 1000, .ref 5000, .ref 4500, .int (nI (5 * i)), xx_d, xx_d] [] := by
  obtain ⟨kT, ekT⟩ : ∃ q, q = k9 + 700 := ⟨_, rfl⟩
  obtain ⟨nT, enT⟩ : ∃ q, q = n9 + 10000 := ⟨_, rfl⟩
  refine xx_wid (k' := kT) (n' := nT) (by omega) (by omega) ?_
  by_cases hb3 : xs (5 * i + 3) = 0
  · obtain ⟨o, σ', v, z', τ', hC, hE, hM, hI', hT, hV⟩ := hif z τ σ (xs (5 * i + 1)) (xs (5 * i + 2)) (0) hI (.inl rfl)
    refine sw_aload_n O (xx_dt dd_L_law_14 13 rfl) rfl ?_
    refine sw_aload_n O (xx_dt dd_L_law_14 14 rfl) rfl ?_
    refine sw_iload O (xx_dt dd_L_law_14 15 rfl) rfl ?_
    refine sw_iconst (x := 1) O (xx_dt dd_L_law_14 16 rfl) (by decide) ?_
    refine sw_iadd O (xx_dt dd_L_law_14 17 rfl) ?_
    rw [show nI (5 * i) + 1 = nI (5 * i + 1) from nI_plus (5 * i) 1]
    refine sw_iaload (v := .int (xs (5 * i + 1))) O (xx_dt dd_L_law_14 18 rfl) ((hL_lo (by omega)).trans h11) (pk_in (5 * i + 1) _ (by omega)) (by rw [nI_clamp (by omega)]) ?_
    refine sw_aload_n O (xx_dt dd_L_law_14 19 rfl) rfl ?_
    refine sw_iload O (xx_dt dd_L_law_14 20 rfl) rfl ?_
    refine sw_iconst (x := 2) O (xx_dt dd_L_law_14 21 rfl) (by decide) ?_
    refine sw_iadd O (xx_dt dd_L_law_14 22 rfl) ?_
    rw [show nI (5 * i) + 2 = nI (5 * i + 2) from nI_plus (5 * i) 2]
    refine sw_iaload (v := .int (xs (5 * i + 2))) O (xx_dt dd_L_law_14 23 rfl) ((hL_lo (by omega)).trans h11) (pk_in (5 * i + 2) _ (by omega)) (by rw [nI_clamp (by omega)]) ?_
    refine sw_aload_n O (xx_dt dd_L_law_14 24 rfl) rfl ?_
    refine sw_iload O (xx_dt dd_L_law_14 25 rfl) rfl ?_
    refine sw_iconst (x := 3) O (xx_dt dd_L_law_14 26 rfl) (by decide) ?_
    refine sw_iadd O (xx_dt dd_L_law_14 27 rfl) ?_
    rw [show nI (5 * i) + 3 = nI (5 * i + 3) from nI_plus (5 * i) 3]
    refine sw_iaload (v := .int (xs (5 * i + 3))) O (xx_dt dd_L_law_14 28 rfl) ((hL_lo (by omega)).trans h11) (pk_in (5 * i + 3) _ (by omega)) (by rw [nI_clamp (by omega)]) ?_
    refine sw_if_eq (tgt := 1540) O (xx_dt dd_L_law_14 29 rfl) (by decide) (fun _ => ?_) (fun q9 => absurd hb3 q9)
    refine sw_iconst (x := 0) O (xx_dt dd_L_law_14 32 rfl) (by decide) ?_
    refine sw_aload_n O (xx_dt dd_L_law_14 33 rfl) rfl ?_
    rw [hL_c]
    refine xx_wid (k' := (k9 + 699) + 1) (n' := (n9 + 9994) + 6) (by omega) (by omega) (sw_callSH (k := k9 + 699) (n := n9 + 9994) (k' := 1) (n' := 6) (as := [.ref 1000, .int (xs (5 * i + 1)), .int (xs (5 * i + 2)), .int 0, .ref 4500]) (st := []) (st2 := [.int (lw_k [eIOB] o)]) O (lw_wants hl (hC _ ⟨h0, z, τ, n, s, hB, rfl⟩) (ly_1000 σ _) (F := fO n (sO s)) ((setC_out (by omega)).trans ((setM_out (by omega)).trans hO_4500)) hE) ch_L_wants mk_L_209 st_L_wants (xx_dt dd_L_law_14 34 rfl) (by decide) rfl rfl (Nat.le_of_ble_eq_true rfl) rfl ?_)
    rw [lw_g_e]
    refine sw_istore (ls2 := [.ref 11, .ref 1000, .ref 5000, .ref 4500, .int (nI (5 * i)), .int (lw_k [eIOB] o), xx_d]) O (xx_dt dd_L_law_14 35 rfl) (by decide) rfl ?_
    obtain ⟨kT, ekT⟩ : ∃ q, q = k9 + 699 := ⟨_, rfl⟩
    obtain ⟨nT, enT⟩ : ∃ q, q = n9 + 9994 := ⟨_, rfl⟩
    refine xx_wid (k' := kT) (n' := nT) (by omega) (by omega) ?_
    show SW Y _ _ (setM z τ (setC σ' (hO h0 (lw_n n o Int32.toInt64) s))) 1547 [.ref 11, .ref 1000, .ref 5000, .ref 4500, .int (nI (5 * i)), .int (lw_k [eIOB] o), xx_d] []
    refine sw_aload_n O (xx_dt dd_L_law_14 36 rfl) rfl ?_
    refine sw_aload_n O (xx_dt dd_L_law_14 37 rfl) rfl ?_
    refine sw_iload O (xx_dt dd_L_law_14 38 rfl) rfl ?_
    refine sw_iconst (x := 1) O (xx_dt dd_L_law_14 39 rfl) (by decide) ?_
    refine sw_iadd O (xx_dt dd_L_law_14 40 rfl) ?_
    rw [show nI (5 * i) + 1 = nI (5 * i + 1) from nI_plus (5 * i) 1]
    refine sw_iaload (v := .int (xs (5 * i + 1))) O (xx_dt dd_L_law_14 41 rfl) ((setM_out (by omega)).trans ((setC_out (by omega)).trans ((hO_o (by omega) (by omega) (by omega)).trans h11))) (pk_in (5 * i + 1) _ (by omega)) (by rw [nI_clamp (by omega)]) ?_
    refine sw_aload_n O (xx_dt dd_L_law_14 42 rfl) rfl ?_
    refine sw_iload O (xx_dt dd_L_law_14 43 rfl) rfl ?_
    refine sw_iconst (x := 2) O (xx_dt dd_L_law_14 44 rfl) (by decide) ?_
    refine sw_iadd O (xx_dt dd_L_law_14 45 rfl) ?_
    rw [show nI (5 * i) + 2 = nI (5 * i + 2) from nI_plus (5 * i) 2]
    refine sw_iaload (v := .int (xs (5 * i + 2))) O (xx_dt dd_L_law_14 46 rfl) ((setM_out (by omega)).trans ((setC_out (by omega)).trans ((hO_o (by omega) (by omega) (by omega)).trans h11))) (pk_in (5 * i + 2) _ (by omega)) (by rw [nI_clamp (by omega)]) ?_
    refine sw_aload_n O (xx_dt dd_L_law_14 47 rfl) rfl ?_
    refine sw_iload O (xx_dt dd_L_law_14 48 rfl) rfl ?_
    refine sw_iconst (x := 3) O (xx_dt dd_L_law_14 49 rfl) (by decide) ?_
    refine sw_iadd O (xx_dt dd_L_law_14 50 rfl) ?_
    rw [show nI (5 * i) + 3 = nI (5 * i + 3) from nI_plus (5 * i) 3]
    refine sw_iaload (v := .int (xs (5 * i + 3))) O (xx_dt dd_L_law_14 51 rfl) ((setM_out (by omega)).trans ((setC_out (by omega)).trans ((hO_o (by omega) (by omega) (by omega)).trans h11))) (pk_in (5 * i + 3) _ (by omega)) (by rw [nI_clamp (by omega)]) ?_
    refine sw_if_eq (tgt := 1573) O (xx_dt dd_L_law_14 52 rfl) (by decide) (fun _ => ?_) (fun q9 => absurd hb3 q9)
    refine sw_iconst (x := 0) O (xx_dt dd_L_law_14 55 rfl) (by decide) ?_
    refine xx_wid (k' := (k9 + 699) + 0) (n' := (n9 + 9994) + 0) (by omega) (by omega) (sw_callVx (k := k9 + 699) (n := n9 + 9994) (k' := 0) (n' := 0) (as := [.int (xs (5 * i + 1)), .int (xs (5 * i + 2)), .int 0]) (st := []) (st2 := [.int v]) O (hM _ ⟨h0, σ', _, s, hB, rfl⟩) ce_X14_wants ml_L_212 iv_X14_wants cl_X14 rfl lm_mod (xx_dt dd_L_law_14 56 rfl) (by decide) rfl rfl (Nat.le_of_ble_eq_true rfl) rfl ?_)
    refine sw_istore (ls2 := [.ref 11, .ref 1000, .ref 5000, .ref 4500, .int (nI (5 * i)), .int (lw_k [eIOB] o), .int v]) O (xx_dt dd_L_law_14 57 rfl) (by decide) rfl ?_
    refine sw_aload_n O (xx_dt dd_L_law_14 58 rfl) rfl ?_
    obtain ⟨kT, ekT⟩ : ∃ q, q = k9 + 699 := ⟨_, rfl⟩
    obtain ⟨nT, enT⟩ : ∃ q, q = n9 + 9994 := ⟨_, rfl⟩
    refine xx_wid (k' := kT) (n' := nT) (by omega) (by omega) ?_
    refine sw_callVx (as := []) (st := []) (st2 := [.int (f_Mthrown τ')]) O (ct_X14_thrown hl (okM.bs ⟨h0, σ', _, s, hB, rfl⟩)) ce_X14_thrown ml_L_147 iv_X14_thrown cl_X14 rfl lm_mod (xx_dt dd_L_law_14 59 rfl) (by decide) rfl rfl (Nat.le_of_ble_eq_true rfl) rfl ?_
    refine sw_iload O (xx_dt dd_L_law_15 0 rfl) rfl ?_
    refine sw_icmp_eq (tgt := 1590) O (xx_dt dd_L_law_15 1 rfl) (by decide) (fun _ => ?_) (fun q9 => absurd (show f_Mthrown τ' = _ from hT) q9)
    refine sw_iload O (xx_dt dd_L_law_15 4 rfl) rfl ?_
    cases o with
    | inr E =>
      refine sw_if_ne (tgt := 1608) O (xx_dt dd_L_law_15 5 rfl) (by decide) (fun _ => ?_) (fun q9 => ?_)
      · refine sw_goto (tgt := 2654) O (xx_dt dd_L_law_15 14 rfl) (by decide) ?_
        refine sw_dum (ls2 := [.ref 11, .ref 1000, .ref 5000, .ref 4500, .int (nI (5 * i)), xx_d, xx_d]) ⟨.inr rfl, .inr rfl, .inr rfl, .inr rfl, .inr rfl, .inl rfl, .inl rfl, trivial⟩ ?_
        refine xx_wid (k' := k9) (n' := n9) (by omega) (by omega) ?_
        exact kk z' τ' σ' _ hI'
      · exfalso
        rcases hE E rfl with rfl
        · revert q9; decide
    | inl w =>
      obtain rfl := hV w rfl
      refine sw_if_ne (tgt := 1608) O (xx_dt dd_L_law_15 5 rfl) (by decide) (fun q9 => absurd rfl q9) (fun _ => ?_)
      refine sw_aload_n O (xx_dt dd_L_law_15 6 rfl) rfl ?_
      refine sw_get (v := .long (Int32.toInt64 w)) O (xx_dt dd_L_law_15 7 rfl) cl_X8 fl_L_13 ((setM_out (by omega)).trans ((setC_out (by omega)).trans hO_4500)) (by decide) rfl ?_
      refine sw_iload O (xx_dt dd_L_law_15 8 rfl) rfl ?_
      refine sw_i2l O (xx_dt dd_L_law_15 9 rfl) ?_
      refine sw_lcmp O (xx_dt dd_L_law_15 10 rfl) ?_
      refine sw_if_eq (tgt := 1608) O (xx_dt dd_L_law_15 11 rfl) (by decide) (fun _ => ?_) (fun q9 => absurd (lw_cmp _) q9)
      refine sw_goto (tgt := 2654) O (xx_dt dd_L_law_15 14 rfl) (by decide) ?_
      refine sw_dum (ls2 := [.ref 11, .ref 1000, .ref 5000, .ref 4500, .int (nI (5 * i)), xx_d, xx_d]) ⟨.inr rfl, .inr rfl, .inr rfl, .inr rfl, .inr rfl, .inl rfl, .inl rfl, trivial⟩ ?_
      refine xx_wid (k' := k9) (n' := n9) (by omega) (by omega) ?_
      exact kk z' τ' σ' _ hI'
  · obtain ⟨o, σ', v, z', τ', hC, hE, hM, hI', hT, hV⟩ := hif z τ σ (xs (5 * i + 1)) (xs (5 * i + 2)) (1) hI (.inr rfl)
    refine sw_aload_n O (xx_dt dd_L_law_14 13 rfl) rfl ?_
    refine sw_aload_n O (xx_dt dd_L_law_14 14 rfl) rfl ?_
    refine sw_iload O (xx_dt dd_L_law_14 15 rfl) rfl ?_
    refine sw_iconst (x := 1) O (xx_dt dd_L_law_14 16 rfl) (by decide) ?_
    refine sw_iadd O (xx_dt dd_L_law_14 17 rfl) ?_
    rw [show nI (5 * i) + 1 = nI (5 * i + 1) from nI_plus (5 * i) 1]
    refine sw_iaload (v := .int (xs (5 * i + 1))) O (xx_dt dd_L_law_14 18 rfl) ((hL_lo (by omega)).trans h11) (pk_in (5 * i + 1) _ (by omega)) (by rw [nI_clamp (by omega)]) ?_
    refine sw_aload_n O (xx_dt dd_L_law_14 19 rfl) rfl ?_
    refine sw_iload O (xx_dt dd_L_law_14 20 rfl) rfl ?_
    refine sw_iconst (x := 2) O (xx_dt dd_L_law_14 21 rfl) (by decide) ?_
    refine sw_iadd O (xx_dt dd_L_law_14 22 rfl) ?_
    rw [show nI (5 * i) + 2 = nI (5 * i + 2) from nI_plus (5 * i) 2]
    refine sw_iaload (v := .int (xs (5 * i + 2))) O (xx_dt dd_L_law_14 23 rfl) ((hL_lo (by omega)).trans h11) (pk_in (5 * i + 2) _ (by omega)) (by rw [nI_clamp (by omega)]) ?_
    refine sw_aload_n O (xx_dt dd_L_law_14 24 rfl) rfl ?_
    refine sw_iload O (xx_dt dd_L_law_14 25 rfl) rfl ?_
    refine sw_iconst (x := 3) O (xx_dt dd_L_law_14 26 rfl) (by decide) ?_
    refine sw_iadd O (xx_dt dd_L_law_14 27 rfl) ?_
    rw [show nI (5 * i) + 3 = nI (5 * i + 3) from nI_plus (5 * i) 3]
    refine sw_iaload (v := .int (xs (5 * i + 3))) O (xx_dt dd_L_law_14 28 rfl) ((hL_lo (by omega)).trans h11) (pk_in (5 * i + 3) _ (by omega)) (by rw [nI_clamp (by omega)]) ?_
    refine sw_if_eq (tgt := 1540) O (xx_dt dd_L_law_14 29 rfl) (by decide) (fun q9 => absurd q9 hb3) (fun _ => ?_)
    refine sw_iconst (x := 1) O (xx_dt dd_L_law_14 30 rfl) (by decide) ?_
    refine sw_goto (tgt := 1541) O (xx_dt dd_L_law_14 31 rfl) (by decide) ?_
    refine sw_aload_n O (xx_dt dd_L_law_14 33 rfl) rfl ?_
    rw [hL_c]
    refine xx_wid (k' := (k9 + 699) + 1) (n' := (n9 + 9994) + 6) (by omega) (by omega) (sw_callSH (k := k9 + 699) (n := n9 + 9994) (k' := 1) (n' := 6) (as := [.ref 1000, .int (xs (5 * i + 1)), .int (xs (5 * i + 2)), .int 1, .ref 4500]) (st := []) (st2 := [.int (lw_k [eIOB] o)]) O (lw_wants hl (hC _ ⟨h0, z, τ, n, s, hB, rfl⟩) (ly_1000 σ _) (F := fO n (sO s)) ((setC_out (by omega)).trans ((setM_out (by omega)).trans hO_4500)) hE) ch_L_wants mk_L_209 st_L_wants (xx_dt dd_L_law_14 34 rfl) (by decide) rfl rfl (Nat.le_of_ble_eq_true rfl) rfl ?_)
    rw [lw_g_e]
    refine sw_istore (ls2 := [.ref 11, .ref 1000, .ref 5000, .ref 4500, .int (nI (5 * i)), .int (lw_k [eIOB] o), xx_d]) O (xx_dt dd_L_law_14 35 rfl) (by decide) rfl ?_
    obtain ⟨kT, ekT⟩ : ∃ q, q = k9 + 699 := ⟨_, rfl⟩
    obtain ⟨nT, enT⟩ : ∃ q, q = n9 + 9994 := ⟨_, rfl⟩
    refine xx_wid (k' := kT) (n' := nT) (by omega) (by omega) ?_
    show SW Y _ _ (setM z τ (setC σ' (hO h0 (lw_n n o Int32.toInt64) s))) 1547 [.ref 11, .ref 1000, .ref 5000, .ref 4500, .int (nI (5 * i)), .int (lw_k [eIOB] o), xx_d] []
    refine sw_aload_n O (xx_dt dd_L_law_14 36 rfl) rfl ?_
    refine sw_aload_n O (xx_dt dd_L_law_14 37 rfl) rfl ?_
    refine sw_iload O (xx_dt dd_L_law_14 38 rfl) rfl ?_
    refine sw_iconst (x := 1) O (xx_dt dd_L_law_14 39 rfl) (by decide) ?_
    refine sw_iadd O (xx_dt dd_L_law_14 40 rfl) ?_
    rw [show nI (5 * i) + 1 = nI (5 * i + 1) from nI_plus (5 * i) 1]
    refine sw_iaload (v := .int (xs (5 * i + 1))) O (xx_dt dd_L_law_14 41 rfl) ((setM_out (by omega)).trans ((setC_out (by omega)).trans ((hO_o (by omega) (by omega) (by omega)).trans h11))) (pk_in (5 * i + 1) _ (by omega)) (by rw [nI_clamp (by omega)]) ?_
    refine sw_aload_n O (xx_dt dd_L_law_14 42 rfl) rfl ?_
    refine sw_iload O (xx_dt dd_L_law_14 43 rfl) rfl ?_
    refine sw_iconst (x := 2) O (xx_dt dd_L_law_14 44 rfl) (by decide) ?_
    refine sw_iadd O (xx_dt dd_L_law_14 45 rfl) ?_
    rw [show nI (5 * i) + 2 = nI (5 * i + 2) from nI_plus (5 * i) 2]
    refine sw_iaload (v := .int (xs (5 * i + 2))) O (xx_dt dd_L_law_14 46 rfl) ((setM_out (by omega)).trans ((setC_out (by omega)).trans ((hO_o (by omega) (by omega) (by omega)).trans h11))) (pk_in (5 * i + 2) _ (by omega)) (by rw [nI_clamp (by omega)]) ?_
    refine sw_aload_n O (xx_dt dd_L_law_14 47 rfl) rfl ?_
    refine sw_iload O (xx_dt dd_L_law_14 48 rfl) rfl ?_
    refine sw_iconst (x := 3) O (xx_dt dd_L_law_14 49 rfl) (by decide) ?_
    refine sw_iadd O (xx_dt dd_L_law_14 50 rfl) ?_
    rw [show nI (5 * i) + 3 = nI (5 * i + 3) from nI_plus (5 * i) 3]
    refine sw_iaload (v := .int (xs (5 * i + 3))) O (xx_dt dd_L_law_14 51 rfl) ((setM_out (by omega)).trans ((setC_out (by omega)).trans ((hO_o (by omega) (by omega) (by omega)).trans h11))) (pk_in (5 * i + 3) _ (by omega)) (by rw [nI_clamp (by omega)]) ?_
    refine sw_if_eq (tgt := 1573) O (xx_dt dd_L_law_14 52 rfl) (by decide) (fun q9 => absurd q9 hb3) (fun _ => ?_)
    refine sw_iconst (x := 1) O (xx_dt dd_L_law_14 53 rfl) (by decide) ?_
    refine sw_goto (tgt := 1574) O (xx_dt dd_L_law_14 54 rfl) (by decide) ?_
    refine xx_wid (k' := (k9 + 699) + 0) (n' := (n9 + 9994) + 0) (by omega) (by omega) (sw_callVx (k := k9 + 699) (n := n9 + 9994) (k' := 0) (n' := 0) (as := [.int (xs (5 * i + 1)), .int (xs (5 * i + 2)), .int 1]) (st := []) (st2 := [.int v]) O (hM _ ⟨h0, σ', _, s, hB, rfl⟩) ce_X14_wants ml_L_212 iv_X14_wants cl_X14 rfl lm_mod (xx_dt dd_L_law_14 56 rfl) (by decide) rfl rfl (Nat.le_of_ble_eq_true rfl) rfl ?_)
    refine sw_istore (ls2 := [.ref 11, .ref 1000, .ref 5000, .ref 4500, .int (nI (5 * i)), .int (lw_k [eIOB] o), .int v]) O (xx_dt dd_L_law_14 57 rfl) (by decide) rfl ?_
    refine sw_aload_n O (xx_dt dd_L_law_14 58 rfl) rfl ?_
    obtain ⟨kT, ekT⟩ : ∃ q, q = k9 + 699 := ⟨_, rfl⟩
    obtain ⟨nT, enT⟩ : ∃ q, q = n9 + 9994 := ⟨_, rfl⟩
    refine xx_wid (k' := kT) (n' := nT) (by omega) (by omega) ?_
    refine sw_callVx (as := []) (st := []) (st2 := [.int (f_Mthrown τ')]) O (ct_X14_thrown hl (okM.bs ⟨h0, σ', _, s, hB, rfl⟩)) ce_X14_thrown ml_L_147 iv_X14_thrown cl_X14 rfl lm_mod (xx_dt dd_L_law_14 59 rfl) (by decide) rfl rfl (Nat.le_of_ble_eq_true rfl) rfl ?_
    refine sw_iload O (xx_dt dd_L_law_15 0 rfl) rfl ?_
    refine sw_icmp_eq (tgt := 1590) O (xx_dt dd_L_law_15 1 rfl) (by decide) (fun _ => ?_) (fun q9 => absurd (show f_Mthrown τ' = _ from hT) q9)
    refine sw_iload O (xx_dt dd_L_law_15 4 rfl) rfl ?_
    cases o with
    | inr E =>
      refine sw_if_ne (tgt := 1608) O (xx_dt dd_L_law_15 5 rfl) (by decide) (fun _ => ?_) (fun q9 => ?_)
      · refine sw_goto (tgt := 2654) O (xx_dt dd_L_law_15 14 rfl) (by decide) ?_
        refine sw_dum (ls2 := [.ref 11, .ref 1000, .ref 5000, .ref 4500, .int (nI (5 * i)), xx_d, xx_d]) ⟨.inr rfl, .inr rfl, .inr rfl, .inr rfl, .inr rfl, .inl rfl, .inl rfl, trivial⟩ ?_
        refine xx_wid (k' := k9) (n' := n9) (by omega) (by omega) ?_
        exact kk z' τ' σ' _ hI'
      · exfalso
        rcases hE E rfl with rfl
        · revert q9; decide
    | inl w =>
      obtain rfl := hV w rfl
      refine sw_if_ne (tgt := 1608) O (xx_dt dd_L_law_15 5 rfl) (by decide) (fun q9 => absurd rfl q9) (fun _ => ?_)
      refine sw_aload_n O (xx_dt dd_L_law_15 6 rfl) rfl ?_
      refine sw_get (v := .long (Int32.toInt64 w)) O (xx_dt dd_L_law_15 7 rfl) cl_X8 fl_L_13 ((setM_out (by omega)).trans ((setC_out (by omega)).trans hO_4500)) (by decide) rfl ?_
      refine sw_iload O (xx_dt dd_L_law_15 8 rfl) rfl ?_
      refine sw_i2l O (xx_dt dd_L_law_15 9 rfl) ?_
      refine sw_lcmp O (xx_dt dd_L_law_15 10 rfl) ?_
      refine sw_if_eq (tgt := 1608) O (xx_dt dd_L_law_15 11 rfl) (by decide) (fun _ => ?_) (fun q9 => absurd (lw_cmp _) q9)
      refine sw_goto (tgt := 2654) O (xx_dt dd_L_law_15 14 rfl) (by decide) ?_
      refine sw_dum (ls2 := [.ref 11, .ref 1000, .ref 5000, .ref 4500, .int (nI (5 * i)), xx_d, xx_d]) ⟨.inr rfl, .inr rfl, .inr rfl, .inr rfl, .inr rfl, .inl rfl, .inl rfl, trivial⟩ ?_
      refine xx_wid (k' := k9) (n' := n9) (by omega) (by omega) ?_
      exact kk z' τ' σ' _ hI'
theorem lc_20 {Y : XY} {l : Launch} {h0 : XH} {xs : Nat → Int32} {len i : Nat} {n : Int64} {s : Option (Nat × (Nat → Value))} {z : Int64} {τ σ : XS9} {LI : XS9 → XS9 → Prop} (O : xx_O Y m_L_law l 40) (hl : l.stackTraces = false) (hB : okB h0) (h11 : h0 11 = some (100, len, fun j => .int (xs j))) (hi : 5 * i + 5 ≤ len) (hlen : len ≤ 2560) (hI : LI τ σ) (hif : IF_priceIn l LI) {k9 n9 : Nat} (kk : ∀ z τ σ n, LI τ σ → SW Y k9 n9 (hL h0 z τ σ n s) 2654 [.ref 11, .ref 1000, .ref 5000, .ref 4500, .int (nI (5 * i)), xx_d, xx_d] []) : SW Y (k9 + 700) (n9 + 10000) (hL h0 z τ σ n s) 1611 [.ref 11, .ref 1000, .ref 5000, .ref 4500, .int (nI (5 * i)), xx_d, xx_d] [] := by
  obtain ⟨kT, ekT⟩ : ∃ q, q = k9 + 700 := ⟨_, rfl⟩
  obtain ⟨nT, enT⟩ : ∃ q, q = n9 + 10000 := ⟨_, rfl⟩
  refine xx_wid (k' := kT) (n' := nT) (by omega) (by omega) ?_
  obtain ⟨o, σ', v, z', τ', hC, hE, hM, hI', hT, hV⟩ := hif z τ σ (xs (5 * i + 1)) (xs (5 * i + 2)) hI
  refine sw_aload_n O (xx_dt dd_L_law_15 15 rfl) rfl ?_
  refine sw_aload_n O (xx_dt dd_L_law_15 16 rfl) rfl ?_
  refine sw_iload O (xx_dt dd_L_law_15 17 rfl) rfl ?_
  refine sw_iconst (x := 1) O (xx_dt dd_L_law_15 18 rfl) (by decide) ?_
  refine sw_iadd O (xx_dt dd_L_law_15 19 rfl) ?_
  rw [show nI (5 * i) + 1 = nI (5 * i + 1) from nI_plus (5 * i) 1]
  refine sw_iaload (v := .int (xs (5 * i + 1))) O (xx_dt dd_L_law_15 20 rfl) ((hL_lo (by omega)).trans h11) (pk_in (5 * i + 1) _ (by omega)) (by rw [nI_clamp (by omega)]) ?_
  refine sw_aload_n O (xx_dt dd_L_law_15 21 rfl) rfl ?_
  refine sw_iload O (xx_dt dd_L_law_15 22 rfl) rfl ?_
  refine sw_iconst (x := 2) O (xx_dt dd_L_law_15 23 rfl) (by decide) ?_
  refine sw_iadd O (xx_dt dd_L_law_15 24 rfl) ?_
  rw [show nI (5 * i) + 2 = nI (5 * i + 2) from nI_plus (5 * i) 2]
  refine sw_iaload (v := .int (xs (5 * i + 2))) O (xx_dt dd_L_law_15 25 rfl) ((hL_lo (by omega)).trans h11) (pk_in (5 * i + 2) _ (by omega)) (by rw [nI_clamp (by omega)]) ?_
  refine sw_aload_n O (xx_dt dd_L_law_15 26 rfl) rfl ?_
  rw [hL_c]
  refine xx_wid (k' := (k9 + 699) + 1) (n' := (n9 + 9994) + 6) (by omega) (by omega) (sw_callSH (k := k9 + 699) (n := n9 + 9994) (k' := 1) (n' := 6) (as := [.ref 1000, .int (xs (5 * i + 1)), .int (xs (5 * i + 2)), .ref 4500]) (st := []) (st2 := [.int (lw_k [eIOB] o)]) O (lw_priceIn hl (hC _ ⟨h0, z, τ, n, s, hB, rfl⟩) (ly_1000 σ _) (F := fO n (sO s)) ((setC_out (by omega)).trans ((setM_out (by omega)).trans hO_4500)) hE) ch_L_priceIn mk_L_213 st_L_priceIn (xx_dt dd_L_law_15 27 rfl) (by decide) rfl rfl (Nat.le_of_ble_eq_true rfl) rfl ?_)
  rw [lw_g_e]
  refine sw_istore (ls2 := [.ref 11, .ref 1000, .ref 5000, .ref 4500, .int (nI (5 * i)), .int (lw_k [eIOB] o), xx_d]) O (xx_dt dd_L_law_15 28 rfl) (by decide) rfl ?_
  obtain ⟨kT, ekT⟩ : ∃ q, q = k9 + 699 := ⟨_, rfl⟩
  obtain ⟨nT, enT⟩ : ∃ q, q = n9 + 9994 := ⟨_, rfl⟩
  refine xx_wid (k' := kT) (n' := nT) (by omega) (by omega) ?_
  show SW Y _ _ (setM z τ (setC σ' (hO h0 (lw_n n o Int32.toInt64) s))) 1630 [.ref 11, .ref 1000, .ref 5000, .ref 4500, .int (nI (5 * i)), .int (lw_k [eIOB] o), xx_d] []
  refine sw_aload_n O (xx_dt dd_L_law_15 29 rfl) rfl ?_
  refine sw_aload_n O (xx_dt dd_L_law_15 30 rfl) rfl ?_
  refine sw_iload O (xx_dt dd_L_law_15 31 rfl) rfl ?_
  refine sw_iconst (x := 1) O (xx_dt dd_L_law_15 32 rfl) (by decide) ?_
  refine sw_iadd O (xx_dt dd_L_law_15 33 rfl) ?_
  rw [show nI (5 * i) + 1 = nI (5 * i + 1) from nI_plus (5 * i) 1]
  refine sw_iaload (v := .int (xs (5 * i + 1))) O (xx_dt dd_L_law_15 34 rfl) ((setM_out (by omega)).trans ((setC_out (by omega)).trans ((hO_o (by omega) (by omega) (by omega)).trans h11))) (pk_in (5 * i + 1) _ (by omega)) (by rw [nI_clamp (by omega)]) ?_
  refine sw_aload_n O (xx_dt dd_L_law_15 35 rfl) rfl ?_
  refine sw_iload O (xx_dt dd_L_law_15 36 rfl) rfl ?_
  refine sw_iconst (x := 2) O (xx_dt dd_L_law_15 37 rfl) (by decide) ?_
  refine sw_iadd O (xx_dt dd_L_law_15 38 rfl) ?_
  rw [show nI (5 * i) + 2 = nI (5 * i + 2) from nI_plus (5 * i) 2]
  refine sw_iaload (v := .int (xs (5 * i + 2))) O (xx_dt dd_L_law_15 39 rfl) ((setM_out (by omega)).trans ((setC_out (by omega)).trans ((hO_o (by omega) (by omega) (by omega)).trans h11))) (pk_in (5 * i + 2) _ (by omega)) (by rw [nI_clamp (by omega)]) ?_
  refine xx_wid (k' := (k9 + 699) + 0) (n' := (n9 + 9994) + 0) (by omega) (by omega) (sw_callVx (k := k9 + 699) (n := n9 + 9994) (k' := 0) (n' := 0) (as := [.int (xs (5 * i + 1)), .int (xs (5 * i + 2))]) (st := []) (st2 := [.int v]) O (hM _ ⟨h0, σ', _, s, hB, rfl⟩) ce_X14_priceIn ml_L_215 iv_X14_priceIn cl_X14 rfl lm_mod (xx_dt dd_L_law_15 40 rfl) (by decide) rfl rfl (Nat.le_of_ble_eq_true rfl) rfl ?_)
  refine sw_istore (ls2 := [.ref 11, .ref 1000, .ref 5000, .ref 4500, .int (nI (5 * i)), .int (lw_k [eIOB] o), .int v]) O (xx_dt dd_L_law_15 41 rfl) (by decide) rfl ?_
  refine sw_aload_n O (xx_dt dd_L_law_15 42 rfl) rfl ?_
  obtain ⟨kT, ekT⟩ : ∃ q, q = k9 + 699 := ⟨_, rfl⟩
  obtain ⟨nT, enT⟩ : ∃ q, q = n9 + 9994 := ⟨_, rfl⟩
  refine xx_wid (k' := kT) (n' := nT) (by omega) (by omega) ?_
  refine sw_callVx (as := []) (st := []) (st2 := [.int (f_Mthrown τ')]) O (ct_X14_thrown hl (okM.bs ⟨h0, σ', _, s, hB, rfl⟩)) ce_X14_thrown ml_L_147 iv_X14_thrown cl_X14 rfl lm_mod (xx_dt dd_L_law_15 43 rfl) (by decide) rfl rfl (Nat.le_of_ble_eq_true rfl) rfl ?_
  refine sw_iload O (xx_dt dd_L_law_15 44 rfl) rfl ?_
  refine sw_icmp_eq (tgt := 1659) O (xx_dt dd_L_law_15 45 rfl) (by decide) (fun _ => ?_) (fun q9 => absurd (show f_Mthrown τ' = _ from hT) q9)
  refine sw_iload O (xx_dt dd_L_law_15 48 rfl) rfl ?_
  cases o with
  | inr E =>
    refine sw_if_ne (tgt := 1677) O (xx_dt dd_L_law_15 49 rfl) (by decide) (fun _ => ?_) (fun q9 => ?_)
    · refine sw_goto (tgt := 2654) O (xx_dt dd_L_law_15 58 rfl) (by decide) ?_
      refine sw_dum (ls2 := [.ref 11, .ref 1000, .ref 5000, .ref 4500, .int (nI (5 * i)), xx_d, xx_d]) ⟨.inr rfl, .inr rfl, .inr rfl, .inr rfl, .inr rfl, .inl rfl, .inl rfl, trivial⟩ ?_
      refine xx_wid (k' := k9) (n' := n9) (by omega) (by omega) ?_
      exact kk z' τ' σ' _ hI'
    · exfalso
      rcases hE E rfl with rfl
      · revert q9; decide
  | inl w =>
    obtain rfl := hV w rfl
    refine sw_if_ne (tgt := 1677) O (xx_dt dd_L_law_15 49 rfl) (by decide) (fun q9 => absurd rfl q9) (fun _ => ?_)
    refine sw_aload_n O (xx_dt dd_L_law_15 50 rfl) rfl ?_
    refine sw_get (v := .long (Int32.toInt64 w)) O (xx_dt dd_L_law_15 51 rfl) cl_X8 fl_L_13 ((setM_out (by omega)).trans ((setC_out (by omega)).trans hO_4500)) (by decide) rfl ?_
    refine sw_iload O (xx_dt dd_L_law_15 52 rfl) rfl ?_
    refine sw_i2l O (xx_dt dd_L_law_15 53 rfl) ?_
    refine sw_lcmp O (xx_dt dd_L_law_15 54 rfl) ?_
    refine sw_if_eq (tgt := 1677) O (xx_dt dd_L_law_15 55 rfl) (by decide) (fun _ => ?_) (fun q9 => absurd (lw_cmp _) q9)
    refine sw_goto (tgt := 2654) O (xx_dt dd_L_law_15 58 rfl) (by decide) ?_
    refine sw_dum (ls2 := [.ref 11, .ref 1000, .ref 5000, .ref 4500, .int (nI (5 * i)), xx_d, xx_d]) ⟨.inr rfl, .inr rfl, .inr rfl, .inr rfl, .inr rfl, .inl rfl, .inl rfl, trivial⟩ ?_
    refine xx_wid (k' := k9) (n' := n9) (by omega) (by omega) ?_
    exact kk z' τ' σ' _ hI'
theorem lc_21 {Y : XY} {l : Launch} {h0 : XH} {xs : Nat → Int32} {len i : Nat} {n : Int64} {s : Option (Nat × (Nat → Value))} {z : Int64} {τ σ : XS9} {LI : XS9 → XS9 → Prop} (O : xx_O Y m_L_law l 40) (hl : l.stackTraces = false) (hB : okB h0) (h11 : h0 11 = some (100, len, fun j => .int (xs j))) (hi : 5 * i + 5 ≤ len) (hlen : len ≤ 2560) (hI : LI τ σ) (hif : IF_codeIn l LI) {k9 n9 : Nat} (kk : ∀ z τ σ n, LI τ σ → SW Y k9 n9 (hL h0 z τ σ n s) 2654 [.ref 11, .ref 1000, .ref 5000, .ref 4500, .int (nI (5 * i)), xx_d, xx_d] []) : SW Y (k9 + 700) (n9 + 10000) (hL h0 z τ σ n s) 1680 [.ref 11, .ref 1000, .ref 5000, .ref 4500, .int (nI (5 * i)), xx_d, xx_d] [] := by
  obtain ⟨kT, ekT⟩ : ∃ q, q = k9 + 700 := ⟨_, rfl⟩
  obtain ⟨nT, enT⟩ : ∃ q, q = n9 + 10000 := ⟨_, rfl⟩
  refine xx_wid (k' := kT) (n' := nT) (by omega) (by omega) ?_
  by_cases hb3 : xs (5 * i + 3) = 0
  · obtain ⟨o, σ', v, z', τ', hC, hE, hM, hI', hT, hV⟩ := hif z τ σ (xs (5 * i + 1)) (xs (5 * i + 2)) (0) hI (.inl rfl)
    refine sw_aload_n O (xx_dt dd_L_law_15 59 rfl) rfl ?_
    refine sw_aload_n O (xx_dt dd_L_law_16 0 rfl) rfl ?_
    refine sw_iload O (xx_dt dd_L_law_16 1 rfl) rfl ?_
    refine sw_iconst (x := 1) O (xx_dt dd_L_law_16 2 rfl) (by decide) ?_
    refine sw_iadd O (xx_dt dd_L_law_16 3 rfl) ?_
    rw [show nI (5 * i) + 1 = nI (5 * i + 1) from nI_plus (5 * i) 1]
    refine sw_iaload (v := .int (xs (5 * i + 1))) O (xx_dt dd_L_law_16 4 rfl) ((hL_lo (by omega)).trans h11) (pk_in (5 * i + 1) _ (by omega)) (by rw [nI_clamp (by omega)]) ?_
    refine sw_aload_n O (xx_dt dd_L_law_16 5 rfl) rfl ?_
    refine sw_iload O (xx_dt dd_L_law_16 6 rfl) rfl ?_
    refine sw_iconst (x := 2) O (xx_dt dd_L_law_16 7 rfl) (by decide) ?_
    refine sw_iadd O (xx_dt dd_L_law_16 8 rfl) ?_
    rw [show nI (5 * i) + 2 = nI (5 * i + 2) from nI_plus (5 * i) 2]
    refine sw_iaload (v := .int (xs (5 * i + 2))) O (xx_dt dd_L_law_16 9 rfl) ((hL_lo (by omega)).trans h11) (pk_in (5 * i + 2) _ (by omega)) (by rw [nI_clamp (by omega)]) ?_
    refine sw_aload_n O (xx_dt dd_L_law_16 10 rfl) rfl ?_
    refine sw_iload O (xx_dt dd_L_law_16 11 rfl) rfl ?_
    refine sw_iconst (x := 3) O (xx_dt dd_L_law_16 12 rfl) (by decide) ?_
    refine sw_iadd O (xx_dt dd_L_law_16 13 rfl) ?_
    rw [show nI (5 * i) + 3 = nI (5 * i + 3) from nI_plus (5 * i) 3]
    refine sw_iaload (v := .int (xs (5 * i + 3))) O (xx_dt dd_L_law_16 14 rfl) ((hL_lo (by omega)).trans h11) (pk_in (5 * i + 3) _ (by omega)) (by rw [nI_clamp (by omega)]) ?_
    refine sw_if_eq (tgt := 1706) O (xx_dt dd_L_law_16 15 rfl) (by decide) (fun _ => ?_) (fun q9 => absurd hb3 q9)
    refine sw_iconst (x := 0) O (xx_dt dd_L_law_16 18 rfl) (by decide) ?_
    refine sw_aload_n O (xx_dt dd_L_law_16 19 rfl) rfl ?_
    rw [hL_c]
    refine xx_wid (k' := (k9 + 699) + 1) (n' := (n9 + 9994) + 6) (by omega) (by omega) (sw_callSH (k := k9 + 699) (n := n9 + 9994) (k' := 1) (n' := 6) (as := [.ref 1000, .int (xs (5 * i + 1)), .int (xs (5 * i + 2)), .int 0, .ref 4500]) (st := []) (st2 := [.int (lw_k [eIOB] o)]) O (lw_codeIn hl (hC _ ⟨h0, z, τ, n, s, hB, rfl⟩) (ly_1000 σ _) (F := fO n (sO s)) ((setC_out (by omega)).trans ((setM_out (by omega)).trans hO_4500)) hE) ch_L_codeIn mk_L_216 st_L_codeIn (xx_dt dd_L_law_16 20 rfl) (by decide) rfl rfl (Nat.le_of_ble_eq_true rfl) rfl ?_)
    rw [lw_g_e]
    refine sw_istore (ls2 := [.ref 11, .ref 1000, .ref 5000, .ref 4500, .int (nI (5 * i)), .int (lw_k [eIOB] o), xx_d]) O (xx_dt dd_L_law_16 21 rfl) (by decide) rfl ?_
    obtain ⟨kT, ekT⟩ : ∃ q, q = k9 + 699 := ⟨_, rfl⟩
    obtain ⟨nT, enT⟩ : ∃ q, q = n9 + 9994 := ⟨_, rfl⟩
    refine xx_wid (k' := kT) (n' := nT) (by omega) (by omega) ?_
    show SW Y _ _ (setM z τ (setC σ' (hO h0 (lw_n n o Int32.toInt64) s))) 1713 [.ref 11, .ref 1000, .ref 5000, .ref 4500, .int (nI (5 * i)), .int (lw_k [eIOB] o), xx_d] []
    refine sw_aload_n O (xx_dt dd_L_law_16 22 rfl) rfl ?_
    refine sw_aload_n O (xx_dt dd_L_law_16 23 rfl) rfl ?_
    refine sw_iload O (xx_dt dd_L_law_16 24 rfl) rfl ?_
    refine sw_iconst (x := 1) O (xx_dt dd_L_law_16 25 rfl) (by decide) ?_
    refine sw_iadd O (xx_dt dd_L_law_16 26 rfl) ?_
    rw [show nI (5 * i) + 1 = nI (5 * i + 1) from nI_plus (5 * i) 1]
    refine sw_iaload (v := .int (xs (5 * i + 1))) O (xx_dt dd_L_law_16 27 rfl) ((setM_out (by omega)).trans ((setC_out (by omega)).trans ((hO_o (by omega) (by omega) (by omega)).trans h11))) (pk_in (5 * i + 1) _ (by omega)) (by rw [nI_clamp (by omega)]) ?_
    refine sw_aload_n O (xx_dt dd_L_law_16 28 rfl) rfl ?_
    refine sw_iload O (xx_dt dd_L_law_16 29 rfl) rfl ?_
    refine sw_iconst (x := 2) O (xx_dt dd_L_law_16 30 rfl) (by decide) ?_
    refine sw_iadd O (xx_dt dd_L_law_16 31 rfl) ?_
    rw [show nI (5 * i) + 2 = nI (5 * i + 2) from nI_plus (5 * i) 2]
    refine sw_iaload (v := .int (xs (5 * i + 2))) O (xx_dt dd_L_law_16 32 rfl) ((setM_out (by omega)).trans ((setC_out (by omega)).trans ((hO_o (by omega) (by omega) (by omega)).trans h11))) (pk_in (5 * i + 2) _ (by omega)) (by rw [nI_clamp (by omega)]) ?_
    refine sw_aload_n O (xx_dt dd_L_law_16 33 rfl) rfl ?_
    refine sw_iload O (xx_dt dd_L_law_16 34 rfl) rfl ?_
    refine sw_iconst (x := 3) O (xx_dt dd_L_law_16 35 rfl) (by decide) ?_
    refine sw_iadd O (xx_dt dd_L_law_16 36 rfl) ?_
    rw [show nI (5 * i) + 3 = nI (5 * i + 3) from nI_plus (5 * i) 3]
    refine sw_iaload (v := .int (xs (5 * i + 3))) O (xx_dt dd_L_law_16 37 rfl) ((setM_out (by omega)).trans ((setC_out (by omega)).trans ((hO_o (by omega) (by omega) (by omega)).trans h11))) (pk_in (5 * i + 3) _ (by omega)) (by rw [nI_clamp (by omega)]) ?_
    refine sw_if_eq (tgt := 1739) O (xx_dt dd_L_law_16 38 rfl) (by decide) (fun _ => ?_) (fun q9 => absurd hb3 q9)
    refine sw_iconst (x := 0) O (xx_dt dd_L_law_16 41 rfl) (by decide) ?_
    refine xx_wid (k' := (k9 + 699) + 0) (n' := (n9 + 9994) + 0) (by omega) (by omega) (sw_callVx (k := k9 + 699) (n := n9 + 9994) (k' := 0) (n' := 0) (as := [.int (xs (5 * i + 1)), .int (xs (5 * i + 2)), .int 0]) (st := []) (st2 := [.int v]) O (hM _ ⟨h0, σ', _, s, hB, rfl⟩) ce_X14_codeIn ml_L_218 iv_X14_codeIn cl_X14 rfl lm_mod (xx_dt dd_L_law_16 42 rfl) (by decide) rfl rfl (Nat.le_of_ble_eq_true rfl) rfl ?_)
    refine sw_istore (ls2 := [.ref 11, .ref 1000, .ref 5000, .ref 4500, .int (nI (5 * i)), .int (lw_k [eIOB] o), .int v]) O (xx_dt dd_L_law_16 43 rfl) (by decide) rfl ?_
    refine sw_aload_n O (xx_dt dd_L_law_16 44 rfl) rfl ?_
    obtain ⟨kT, ekT⟩ : ∃ q, q = k9 + 699 := ⟨_, rfl⟩
    obtain ⟨nT, enT⟩ : ∃ q, q = n9 + 9994 := ⟨_, rfl⟩
    refine xx_wid (k' := kT) (n' := nT) (by omega) (by omega) ?_
    refine sw_callVx (as := []) (st := []) (st2 := [.int (f_Mthrown τ')]) O (ct_X14_thrown hl (okM.bs ⟨h0, σ', _, s, hB, rfl⟩)) ce_X14_thrown ml_L_147 iv_X14_thrown cl_X14 rfl lm_mod (xx_dt dd_L_law_16 45 rfl) (by decide) rfl rfl (Nat.le_of_ble_eq_true rfl) rfl ?_
    refine sw_iload O (xx_dt dd_L_law_16 46 rfl) rfl ?_
    refine sw_icmp_eq (tgt := 1756) O (xx_dt dd_L_law_16 47 rfl) (by decide) (fun _ => ?_) (fun q9 => absurd (show f_Mthrown τ' = _ from hT) q9)
    refine sw_iload O (xx_dt dd_L_law_16 50 rfl) rfl ?_
    cases o with
    | inr E =>
      refine sw_if_ne (tgt := 1774) O (xx_dt dd_L_law_16 51 rfl) (by decide) (fun _ => ?_) (fun q9 => ?_)
      · refine sw_goto (tgt := 2654) O (xx_dt dd_L_law_17 0 rfl) (by decide) ?_
        refine sw_dum (ls2 := [.ref 11, .ref 1000, .ref 5000, .ref 4500, .int (nI (5 * i)), xx_d, xx_d]) ⟨.inr rfl, .inr rfl, .inr rfl, .inr rfl, .inr rfl, .inl rfl, .inl rfl, trivial⟩ ?_
        refine xx_wid (k' := k9) (n' := n9) (by omega) (by omega) ?_
        exact kk z' τ' σ' _ hI'
      · exfalso
        rcases hE E rfl with rfl
        · revert q9; decide
    | inl w =>
      obtain rfl := hV w rfl
      refine sw_if_ne (tgt := 1774) O (xx_dt dd_L_law_16 51 rfl) (by decide) (fun q9 => absurd rfl q9) (fun _ => ?_)
      refine sw_aload_n O (xx_dt dd_L_law_16 52 rfl) rfl ?_
      refine sw_get (v := .long (Int32.toInt64 w)) O (xx_dt dd_L_law_16 53 rfl) cl_X8 fl_L_13 ((setM_out (by omega)).trans ((setC_out (by omega)).trans hO_4500)) (by decide) rfl ?_
      refine sw_iload O (xx_dt dd_L_law_16 54 rfl) rfl ?_
      refine sw_i2l O (xx_dt dd_L_law_16 55 rfl) ?_
      refine sw_lcmp O (xx_dt dd_L_law_16 56 rfl) ?_
      refine sw_if_eq (tgt := 1774) O (xx_dt dd_L_law_16 57 rfl) (by decide) (fun _ => ?_) (fun q9 => absurd (lw_cmp _) q9)
      refine sw_goto (tgt := 2654) O (xx_dt dd_L_law_17 0 rfl) (by decide) ?_
      refine sw_dum (ls2 := [.ref 11, .ref 1000, .ref 5000, .ref 4500, .int (nI (5 * i)), xx_d, xx_d]) ⟨.inr rfl, .inr rfl, .inr rfl, .inr rfl, .inr rfl, .inl rfl, .inl rfl, trivial⟩ ?_
      refine xx_wid (k' := k9) (n' := n9) (by omega) (by omega) ?_
      exact kk z' τ' σ' _ hI'
  · obtain ⟨o, σ', v, z', τ', hC, hE, hM, hI', hT, hV⟩ := hif z τ σ (xs (5 * i + 1)) (xs (5 * i + 2)) (1) hI (.inr rfl)
    refine sw_aload_n O (xx_dt dd_L_law_15 59 rfl) rfl ?_
    refine sw_aload_n O (xx_dt dd_L_law_16 0 rfl) rfl ?_
    refine sw_iload O (xx_dt dd_L_law_16 1 rfl) rfl ?_
    refine sw_iconst (x := 1) O (xx_dt dd_L_law_16 2 rfl) (by decide) ?_
    refine sw_iadd O (xx_dt dd_L_law_16 3 rfl) ?_
    rw [show nI (5 * i) + 1 = nI (5 * i + 1) from nI_plus (5 * i) 1]
    refine sw_iaload (v := .int (xs (5 * i + 1))) O (xx_dt dd_L_law_16 4 rfl) ((hL_lo (by omega)).trans h11) (pk_in (5 * i + 1) _ (by omega)) (by rw [nI_clamp (by omega)]) ?_
    refine sw_aload_n O (xx_dt dd_L_law_16 5 rfl) rfl ?_
    refine sw_iload O (xx_dt dd_L_law_16 6 rfl) rfl ?_
    refine sw_iconst (x := 2) O (xx_dt dd_L_law_16 7 rfl) (by decide) ?_
    refine sw_iadd O (xx_dt dd_L_law_16 8 rfl) ?_
    rw [show nI (5 * i) + 2 = nI (5 * i + 2) from nI_plus (5 * i) 2]
    refine sw_iaload (v := .int (xs (5 * i + 2))) O (xx_dt dd_L_law_16 9 rfl) ((hL_lo (by omega)).trans h11) (pk_in (5 * i + 2) _ (by omega)) (by rw [nI_clamp (by omega)]) ?_
    refine sw_aload_n O (xx_dt dd_L_law_16 10 rfl) rfl ?_
    refine sw_iload O (xx_dt dd_L_law_16 11 rfl) rfl ?_
    refine sw_iconst (x := 3) O (xx_dt dd_L_law_16 12 rfl) (by decide) ?_
    refine sw_iadd O (xx_dt dd_L_law_16 13 rfl) ?_
    rw [show nI (5 * i) + 3 = nI (5 * i + 3) from nI_plus (5 * i) 3]
    refine sw_iaload (v := .int (xs (5 * i + 3))) O (xx_dt dd_L_law_16 14 rfl) ((hL_lo (by omega)).trans h11) (pk_in (5 * i + 3) _ (by omega)) (by rw [nI_clamp (by omega)]) ?_
    refine sw_if_eq (tgt := 1706) O (xx_dt dd_L_law_16 15 rfl) (by decide) (fun q9 => absurd q9 hb3) (fun _ => ?_)
    refine sw_iconst (x := 1) O (xx_dt dd_L_law_16 16 rfl) (by decide) ?_
    refine sw_goto (tgt := 1707) O (xx_dt dd_L_law_16 17 rfl) (by decide) ?_
    refine sw_aload_n O (xx_dt dd_L_law_16 19 rfl) rfl ?_
    rw [hL_c]
    refine xx_wid (k' := (k9 + 699) + 1) (n' := (n9 + 9994) + 6) (by omega) (by omega) (sw_callSH (k := k9 + 699) (n := n9 + 9994) (k' := 1) (n' := 6) (as := [.ref 1000, .int (xs (5 * i + 1)), .int (xs (5 * i + 2)), .int 1, .ref 4500]) (st := []) (st2 := [.int (lw_k [eIOB] o)]) O (lw_codeIn hl (hC _ ⟨h0, z, τ, n, s, hB, rfl⟩) (ly_1000 σ _) (F := fO n (sO s)) ((setC_out (by omega)).trans ((setM_out (by omega)).trans hO_4500)) hE) ch_L_codeIn mk_L_216 st_L_codeIn (xx_dt dd_L_law_16 20 rfl) (by decide) rfl rfl (Nat.le_of_ble_eq_true rfl) rfl ?_)
    rw [lw_g_e]
    refine sw_istore (ls2 := [.ref 11, .ref 1000, .ref 5000, .ref 4500, .int (nI (5 * i)), .int (lw_k [eIOB] o), xx_d]) O (xx_dt dd_L_law_16 21 rfl) (by decide) rfl ?_
    obtain ⟨kT, ekT⟩ : ∃ q, q = k9 + 699 := ⟨_, rfl⟩
    obtain ⟨nT, enT⟩ : ∃ q, q = n9 + 9994 := ⟨_, rfl⟩
    refine xx_wid (k' := kT) (n' := nT) (by omega) (by omega) ?_
    show SW Y _ _ (setM z τ (setC σ' (hO h0 (lw_n n o Int32.toInt64) s))) 1713 [.ref 11, .ref 1000, .ref 5000, .ref 4500, .int (nI (5 * i)), .int (lw_k [eIOB] o), xx_d] []
    refine sw_aload_n O (xx_dt dd_L_law_16 22 rfl) rfl ?_
    refine sw_aload_n O (xx_dt dd_L_law_16 23 rfl) rfl ?_
    refine sw_iload O (xx_dt dd_L_law_16 24 rfl) rfl ?_
    refine sw_iconst (x := 1) O (xx_dt dd_L_law_16 25 rfl) (by decide) ?_
    refine sw_iadd O (xx_dt dd_L_law_16 26 rfl) ?_
    rw [show nI (5 * i) + 1 = nI (5 * i + 1) from nI_plus (5 * i) 1]
    refine sw_iaload (v := .int (xs (5 * i + 1))) O (xx_dt dd_L_law_16 27 rfl) ((setM_out (by omega)).trans ((setC_out (by omega)).trans ((hO_o (by omega) (by omega) (by omega)).trans h11))) (pk_in (5 * i + 1) _ (by omega)) (by rw [nI_clamp (by omega)]) ?_
    refine sw_aload_n O (xx_dt dd_L_law_16 28 rfl) rfl ?_
    refine sw_iload O (xx_dt dd_L_law_16 29 rfl) rfl ?_
    refine sw_iconst (x := 2) O (xx_dt dd_L_law_16 30 rfl) (by decide) ?_
    refine sw_iadd O (xx_dt dd_L_law_16 31 rfl) ?_
    rw [show nI (5 * i) + 2 = nI (5 * i + 2) from nI_plus (5 * i) 2]
    refine sw_iaload (v := .int (xs (5 * i + 2))) O (xx_dt dd_L_law_16 32 rfl) ((setM_out (by omega)).trans ((setC_out (by omega)).trans ((hO_o (by omega) (by omega) (by omega)).trans h11))) (pk_in (5 * i + 2) _ (by omega)) (by rw [nI_clamp (by omega)]) ?_
    refine sw_aload_n O (xx_dt dd_L_law_16 33 rfl) rfl ?_
    refine sw_iload O (xx_dt dd_L_law_16 34 rfl) rfl ?_
    refine sw_iconst (x := 3) O (xx_dt dd_L_law_16 35 rfl) (by decide) ?_
    refine sw_iadd O (xx_dt dd_L_law_16 36 rfl) ?_
    rw [show nI (5 * i) + 3 = nI (5 * i + 3) from nI_plus (5 * i) 3]
    refine sw_iaload (v := .int (xs (5 * i + 3))) O (xx_dt dd_L_law_16 37 rfl) ((setM_out (by omega)).trans ((setC_out (by omega)).trans ((hO_o (by omega) (by omega) (by omega)).trans h11))) (pk_in (5 * i + 3) _ (by omega)) (by rw [nI_clamp (by omega)]) ?_
    refine sw_if_eq (tgt := 1739) O (xx_dt dd_L_law_16 38 rfl) (by decide) (fun q9 => absurd q9 hb3) (fun _ => ?_)
    refine sw_iconst (x := 1) O (xx_dt dd_L_law_16 39 rfl) (by decide) ?_
    refine sw_goto (tgt := 1740) O (xx_dt dd_L_law_16 40 rfl) (by decide) ?_
    refine xx_wid (k' := (k9 + 699) + 0) (n' := (n9 + 9994) + 0) (by omega) (by omega) (sw_callVx (k := k9 + 699) (n := n9 + 9994) (k' := 0) (n' := 0) (as := [.int (xs (5 * i + 1)), .int (xs (5 * i + 2)), .int 1]) (st := []) (st2 := [.int v]) O (hM _ ⟨h0, σ', _, s, hB, rfl⟩) ce_X14_codeIn ml_L_218 iv_X14_codeIn cl_X14 rfl lm_mod (xx_dt dd_L_law_16 42 rfl) (by decide) rfl rfl (Nat.le_of_ble_eq_true rfl) rfl ?_)
    refine sw_istore (ls2 := [.ref 11, .ref 1000, .ref 5000, .ref 4500, .int (nI (5 * i)), .int (lw_k [eIOB] o), .int v]) O (xx_dt dd_L_law_16 43 rfl) (by decide) rfl ?_
    refine sw_aload_n O (xx_dt dd_L_law_16 44 rfl) rfl ?_
    obtain ⟨kT, ekT⟩ : ∃ q, q = k9 + 699 := ⟨_, rfl⟩
    obtain ⟨nT, enT⟩ : ∃ q, q = n9 + 9994 := ⟨_, rfl⟩
    refine xx_wid (k' := kT) (n' := nT) (by omega) (by omega) ?_
    refine sw_callVx (as := []) (st := []) (st2 := [.int (f_Mthrown τ')]) O (ct_X14_thrown hl (okM.bs ⟨h0, σ', _, s, hB, rfl⟩)) ce_X14_thrown ml_L_147 iv_X14_thrown cl_X14 rfl lm_mod (xx_dt dd_L_law_16 45 rfl) (by decide) rfl rfl (Nat.le_of_ble_eq_true rfl) rfl ?_
    refine sw_iload O (xx_dt dd_L_law_16 46 rfl) rfl ?_
    refine sw_icmp_eq (tgt := 1756) O (xx_dt dd_L_law_16 47 rfl) (by decide) (fun _ => ?_) (fun q9 => absurd (show f_Mthrown τ' = _ from hT) q9)
    refine sw_iload O (xx_dt dd_L_law_16 50 rfl) rfl ?_
    cases o with
    | inr E =>
      refine sw_if_ne (tgt := 1774) O (xx_dt dd_L_law_16 51 rfl) (by decide) (fun _ => ?_) (fun q9 => ?_)
      · refine sw_goto (tgt := 2654) O (xx_dt dd_L_law_17 0 rfl) (by decide) ?_
        refine sw_dum (ls2 := [.ref 11, .ref 1000, .ref 5000, .ref 4500, .int (nI (5 * i)), xx_d, xx_d]) ⟨.inr rfl, .inr rfl, .inr rfl, .inr rfl, .inr rfl, .inl rfl, .inl rfl, trivial⟩ ?_
        refine xx_wid (k' := k9) (n' := n9) (by omega) (by omega) ?_
        exact kk z' τ' σ' _ hI'
      · exfalso
        rcases hE E rfl with rfl
        · revert q9; decide
    | inl w =>
      obtain rfl := hV w rfl
      refine sw_if_ne (tgt := 1774) O (xx_dt dd_L_law_16 51 rfl) (by decide) (fun q9 => absurd rfl q9) (fun _ => ?_)
      refine sw_aload_n O (xx_dt dd_L_law_16 52 rfl) rfl ?_
      refine sw_get (v := .long (Int32.toInt64 w)) O (xx_dt dd_L_law_16 53 rfl) cl_X8 fl_L_13 ((setM_out (by omega)).trans ((setC_out (by omega)).trans hO_4500)) (by decide) rfl ?_
      refine sw_iload O (xx_dt dd_L_law_16 54 rfl) rfl ?_
      refine sw_i2l O (xx_dt dd_L_law_16 55 rfl) ?_
      refine sw_lcmp O (xx_dt dd_L_law_16 56 rfl) ?_
      refine sw_if_eq (tgt := 1774) O (xx_dt dd_L_law_16 57 rfl) (by decide) (fun _ => ?_) (fun q9 => absurd (lw_cmp _) q9)
      refine sw_goto (tgt := 2654) O (xx_dt dd_L_law_17 0 rfl) (by decide) ?_
      refine sw_dum (ls2 := [.ref 11, .ref 1000, .ref 5000, .ref 4500, .int (nI (5 * i)), xx_d, xx_d]) ⟨.inr rfl, .inr rfl, .inr rfl, .inr rfl, .inr rfl, .inl rfl, .inl rfl, trivial⟩ ?_
      refine xx_wid (k' := k9) (n' := n9) (by omega) (by omega) ?_
      exact kk z' τ' σ' _ hI'
theorem lc_22 {Y : XY} {l : Launch} {h0 : XH} {xs : Nat → Int32} {len i : Nat} {n : Int64} {s : Option (Nat × (Nat → Value))} {z : Int64} {τ σ : XS9} {LI : XS9 → XS9 → Prop} (O : xx_O Y m_L_law l 40) (hl : l.stackTraces = false) (hB : okB h0) (h11 : h0 11 = some (100, len, fun j => .int (xs j))) (hi : 5 * i + 5 ≤ len) (hlen : len ≤ 2560) (hI : LI τ σ) (hif : IF_ofPackage l LI) {k9 n9 : Nat} (kk : ∀ z τ σ n, LI τ σ → SW Y k9 n9 (hL h0 z τ σ n s) 2654 [.ref 11, .ref 1000, .ref 5000, .ref 4500, .int (nI (5 * i)), xx_d, xx_d] []) : SW Y (k9 + 700) (n9 + 10000) (hL h0 z τ σ n s) 1777 [.ref 11, .ref 1000, .ref 5000, .ref 4500, .int (nI (5 * i)), xx_d, xx_d] [] := by
  obtain ⟨kT, ekT⟩ : ∃ q, q = k9 + 700 := ⟨_, rfl⟩
  obtain ⟨nT, enT⟩ : ∃ q, q = n9 + 10000 := ⟨_, rfl⟩
  refine xx_wid (k' := kT) (n' := nT) (by omega) (by omega) ?_
  by_cases hb3 : xs (5 * i + 3) = 0
  · obtain ⟨o, σ', v, z', τ', hC, hE, hM, hI', hT, hV⟩ := hif z τ σ (xs (5 * i + 1)) (xs (5 * i + 2)) (0) hI (.inl rfl)
    refine sw_aload_n O (xx_dt dd_L_law_17 1 rfl) rfl ?_
    refine sw_aload_n O (xx_dt dd_L_law_17 2 rfl) rfl ?_
    refine sw_iload O (xx_dt dd_L_law_17 3 rfl) rfl ?_
    refine sw_iconst (x := 1) O (xx_dt dd_L_law_17 4 rfl) (by decide) ?_
    refine sw_iadd O (xx_dt dd_L_law_17 5 rfl) ?_
    rw [show nI (5 * i) + 1 = nI (5 * i + 1) from nI_plus (5 * i) 1]
    refine sw_iaload (v := .int (xs (5 * i + 1))) O (xx_dt dd_L_law_17 6 rfl) ((hL_lo (by omega)).trans h11) (pk_in (5 * i + 1) _ (by omega)) (by rw [nI_clamp (by omega)]) ?_
    refine sw_aload_n O (xx_dt dd_L_law_17 7 rfl) rfl ?_
    refine sw_iload O (xx_dt dd_L_law_17 8 rfl) rfl ?_
    refine sw_iconst (x := 2) O (xx_dt dd_L_law_17 9 rfl) (by decide) ?_
    refine sw_iadd O (xx_dt dd_L_law_17 10 rfl) ?_
    rw [show nI (5 * i) + 2 = nI (5 * i + 2) from nI_plus (5 * i) 2]
    refine sw_iaload (v := .int (xs (5 * i + 2))) O (xx_dt dd_L_law_17 11 rfl) ((hL_lo (by omega)).trans h11) (pk_in (5 * i + 2) _ (by omega)) (by rw [nI_clamp (by omega)]) ?_
    refine sw_aload_n O (xx_dt dd_L_law_17 12 rfl) rfl ?_
    refine sw_iload O (xx_dt dd_L_law_17 13 rfl) rfl ?_
    refine sw_iconst (x := 3) O (xx_dt dd_L_law_17 14 rfl) (by decide) ?_
    refine sw_iadd O (xx_dt dd_L_law_17 15 rfl) ?_
    rw [show nI (5 * i) + 3 = nI (5 * i + 3) from nI_plus (5 * i) 3]
    refine sw_iaload (v := .int (xs (5 * i + 3))) O (xx_dt dd_L_law_17 16 rfl) ((hL_lo (by omega)).trans h11) (pk_in (5 * i + 3) _ (by omega)) (by rw [nI_clamp (by omega)]) ?_
    refine sw_if_eq (tgt := 1803) O (xx_dt dd_L_law_17 17 rfl) (by decide) (fun _ => ?_) (fun q9 => absurd hb3 q9)
    refine sw_iconst (x := 0) O (xx_dt dd_L_law_17 20 rfl) (by decide) ?_
    refine sw_aload_n O (xx_dt dd_L_law_17 21 rfl) rfl ?_
    rw [hL_c]
    refine xx_wid (k' := (k9 + 699) + 1) (n' := (n9 + 9994) + 6) (by omega) (by omega) (sw_callSH (k := k9 + 699) (n := n9 + 9994) (k' := 1) (n' := 6) (as := [.ref 1000, .int (xs (5 * i + 1)), .int (xs (5 * i + 2)), .int 0, .ref 4500]) (st := []) (st2 := [.int (lw_k [eIOB] o)]) O (lw_ofPackage hl (hC _ ⟨h0, z, τ, n, s, hB, rfl⟩) (ly_1000 σ _) (F := fO n (sO s)) ((setC_out (by omega)).trans ((setM_out (by omega)).trans hO_4500)) hE) ch_L_ofPackage mk_L_219 st_L_ofPackage (xx_dt dd_L_law_17 22 rfl) (by decide) rfl rfl (Nat.le_of_ble_eq_true rfl) rfl ?_)
    rw [lw_g_e]
    refine sw_istore (ls2 := [.ref 11, .ref 1000, .ref 5000, .ref 4500, .int (nI (5 * i)), .int (lw_k [eIOB] o), xx_d]) O (xx_dt dd_L_law_17 23 rfl) (by decide) rfl ?_
    obtain ⟨kT, ekT⟩ : ∃ q, q = k9 + 699 := ⟨_, rfl⟩
    obtain ⟨nT, enT⟩ : ∃ q, q = n9 + 9994 := ⟨_, rfl⟩
    refine xx_wid (k' := kT) (n' := nT) (by omega) (by omega) ?_
    show SW Y _ _ (setM z τ (setC σ' (hO h0 (lw_n n o Int32.toInt64) s))) 1810 [.ref 11, .ref 1000, .ref 5000, .ref 4500, .int (nI (5 * i)), .int (lw_k [eIOB] o), xx_d] []
    refine sw_aload_n O (xx_dt dd_L_law_17 24 rfl) rfl ?_
    refine sw_aload_n O (xx_dt dd_L_law_17 25 rfl) rfl ?_
    refine sw_iload O (xx_dt dd_L_law_17 26 rfl) rfl ?_
    refine sw_iconst (x := 1) O (xx_dt dd_L_law_17 27 rfl) (by decide) ?_
    refine sw_iadd O (xx_dt dd_L_law_17 28 rfl) ?_
    rw [show nI (5 * i) + 1 = nI (5 * i + 1) from nI_plus (5 * i) 1]
    refine sw_iaload (v := .int (xs (5 * i + 1))) O (xx_dt dd_L_law_17 29 rfl) ((setM_out (by omega)).trans ((setC_out (by omega)).trans ((hO_o (by omega) (by omega) (by omega)).trans h11))) (pk_in (5 * i + 1) _ (by omega)) (by rw [nI_clamp (by omega)]) ?_
    refine sw_aload_n O (xx_dt dd_L_law_17 30 rfl) rfl ?_
    refine sw_iload O (xx_dt dd_L_law_17 31 rfl) rfl ?_
    refine sw_iconst (x := 2) O (xx_dt dd_L_law_17 32 rfl) (by decide) ?_
    refine sw_iadd O (xx_dt dd_L_law_17 33 rfl) ?_
    rw [show nI (5 * i) + 2 = nI (5 * i + 2) from nI_plus (5 * i) 2]
    refine sw_iaload (v := .int (xs (5 * i + 2))) O (xx_dt dd_L_law_17 34 rfl) ((setM_out (by omega)).trans ((setC_out (by omega)).trans ((hO_o (by omega) (by omega) (by omega)).trans h11))) (pk_in (5 * i + 2) _ (by omega)) (by rw [nI_clamp (by omega)]) ?_
    refine sw_aload_n O (xx_dt dd_L_law_17 35 rfl) rfl ?_
    refine sw_iload O (xx_dt dd_L_law_17 36 rfl) rfl ?_
    refine sw_iconst (x := 3) O (xx_dt dd_L_law_17 37 rfl) (by decide) ?_
    refine sw_iadd O (xx_dt dd_L_law_17 38 rfl) ?_
    rw [show nI (5 * i) + 3 = nI (5 * i + 3) from nI_plus (5 * i) 3]
    refine sw_iaload (v := .int (xs (5 * i + 3))) O (xx_dt dd_L_law_17 39 rfl) ((setM_out (by omega)).trans ((setC_out (by omega)).trans ((hO_o (by omega) (by omega) (by omega)).trans h11))) (pk_in (5 * i + 3) _ (by omega)) (by rw [nI_clamp (by omega)]) ?_
    refine sw_if_eq (tgt := 1836) O (xx_dt dd_L_law_17 40 rfl) (by decide) (fun _ => ?_) (fun q9 => absurd hb3 q9)
    refine sw_iconst (x := 0) O (xx_dt dd_L_law_17 43 rfl) (by decide) ?_
    refine xx_wid (k' := (k9 + 699) + 0) (n' := (n9 + 9994) + 0) (by omega) (by omega) (sw_callVx (k := k9 + 699) (n := n9 + 9994) (k' := 0) (n' := 0) (as := [.int (xs (5 * i + 1)), .int (xs (5 * i + 2)), .int 0]) (st := []) (st2 := [.int v]) O (hM _ ⟨h0, σ', _, s, hB, rfl⟩) ce_X14_ofPackage ml_L_221 iv_X14_ofPackage cl_X14 rfl lm_mod (xx_dt dd_L_law_17 44 rfl) (by decide) rfl rfl (Nat.le_of_ble_eq_true rfl) rfl ?_)
    refine sw_istore (ls2 := [.ref 11, .ref 1000, .ref 5000, .ref 4500, .int (nI (5 * i)), .int (lw_k [eIOB] o), .int v]) O (xx_dt dd_L_law_17 45 rfl) (by decide) rfl ?_
    refine sw_aload_n O (xx_dt dd_L_law_17 46 rfl) rfl ?_
    obtain ⟨kT, ekT⟩ : ∃ q, q = k9 + 699 := ⟨_, rfl⟩
    obtain ⟨nT, enT⟩ : ∃ q, q = n9 + 9994 := ⟨_, rfl⟩
    refine xx_wid (k' := kT) (n' := nT) (by omega) (by omega) ?_
    refine sw_callVx (as := []) (st := []) (st2 := [.int (f_Mthrown τ')]) O (ct_X14_thrown hl (okM.bs ⟨h0, σ', _, s, hB, rfl⟩)) ce_X14_thrown ml_L_147 iv_X14_thrown cl_X14 rfl lm_mod (xx_dt dd_L_law_17 47 rfl) (by decide) rfl rfl (Nat.le_of_ble_eq_true rfl) rfl ?_
    refine sw_iload O (xx_dt dd_L_law_17 48 rfl) rfl ?_
    refine sw_icmp_eq (tgt := 1853) O (xx_dt dd_L_law_17 49 rfl) (by decide) (fun _ => ?_) (fun q9 => absurd (show f_Mthrown τ' = _ from hT) q9)
    refine sw_iload O (xx_dt dd_L_law_17 52 rfl) rfl ?_
    cases o with
    | inr E =>
      refine sw_if_ne (tgt := 1871) O (xx_dt dd_L_law_17 53 rfl) (by decide) (fun _ => ?_) (fun q9 => ?_)
      · refine sw_goto (tgt := 2654) O (xx_dt dd_L_law_18 2 rfl) (by decide) ?_
        refine sw_dum (ls2 := [.ref 11, .ref 1000, .ref 5000, .ref 4500, .int (nI (5 * i)), xx_d, xx_d]) ⟨.inr rfl, .inr rfl, .inr rfl, .inr rfl, .inr rfl, .inl rfl, .inl rfl, trivial⟩ ?_
        refine xx_wid (k' := k9) (n' := n9) (by omega) (by omega) ?_
        exact kk z' τ' σ' _ hI'
      · exfalso
        rcases hE E rfl with rfl
        · revert q9; decide
    | inl w =>
      obtain rfl := hV w rfl
      refine sw_if_ne (tgt := 1871) O (xx_dt dd_L_law_17 53 rfl) (by decide) (fun q9 => absurd rfl q9) (fun _ => ?_)
      refine sw_aload_n O (xx_dt dd_L_law_17 54 rfl) rfl ?_
      refine sw_get (v := .long (Int32.toInt64 w)) O (xx_dt dd_L_law_17 55 rfl) cl_X8 fl_L_13 ((setM_out (by omega)).trans ((setC_out (by omega)).trans hO_4500)) (by decide) rfl ?_
      refine sw_iload O (xx_dt dd_L_law_17 56 rfl) rfl ?_
      refine sw_i2l O (xx_dt dd_L_law_17 57 rfl) ?_
      refine sw_lcmp O (xx_dt dd_L_law_17 58 rfl) ?_
      refine sw_if_eq (tgt := 1871) O (xx_dt dd_L_law_17 59 rfl) (by decide) (fun _ => ?_) (fun q9 => absurd (lw_cmp _) q9)
      refine sw_goto (tgt := 2654) O (xx_dt dd_L_law_18 2 rfl) (by decide) ?_
      refine sw_dum (ls2 := [.ref 11, .ref 1000, .ref 5000, .ref 4500, .int (nI (5 * i)), xx_d, xx_d]) ⟨.inr rfl, .inr rfl, .inr rfl, .inr rfl, .inr rfl, .inl rfl, .inl rfl, trivial⟩ ?_
      refine xx_wid (k' := k9) (n' := n9) (by omega) (by omega) ?_
      exact kk z' τ' σ' _ hI'
  · obtain ⟨o, σ', v, z', τ', hC, hE, hM, hI', hT, hV⟩ := hif z τ σ (xs (5 * i + 1)) (xs (5 * i + 2)) (1) hI (.inr rfl)
    refine sw_aload_n O (xx_dt dd_L_law_17 1 rfl) rfl ?_
    refine sw_aload_n O (xx_dt dd_L_law_17 2 rfl) rfl ?_
    refine sw_iload O (xx_dt dd_L_law_17 3 rfl) rfl ?_
    refine sw_iconst (x := 1) O (xx_dt dd_L_law_17 4 rfl) (by decide) ?_
    refine sw_iadd O (xx_dt dd_L_law_17 5 rfl) ?_
    rw [show nI (5 * i) + 1 = nI (5 * i + 1) from nI_plus (5 * i) 1]
    refine sw_iaload (v := .int (xs (5 * i + 1))) O (xx_dt dd_L_law_17 6 rfl) ((hL_lo (by omega)).trans h11) (pk_in (5 * i + 1) _ (by omega)) (by rw [nI_clamp (by omega)]) ?_
    refine sw_aload_n O (xx_dt dd_L_law_17 7 rfl) rfl ?_
    refine sw_iload O (xx_dt dd_L_law_17 8 rfl) rfl ?_
    refine sw_iconst (x := 2) O (xx_dt dd_L_law_17 9 rfl) (by decide) ?_
    refine sw_iadd O (xx_dt dd_L_law_17 10 rfl) ?_
    rw [show nI (5 * i) + 2 = nI (5 * i + 2) from nI_plus (5 * i) 2]
    refine sw_iaload (v := .int (xs (5 * i + 2))) O (xx_dt dd_L_law_17 11 rfl) ((hL_lo (by omega)).trans h11) (pk_in (5 * i + 2) _ (by omega)) (by rw [nI_clamp (by omega)]) ?_
    refine sw_aload_n O (xx_dt dd_L_law_17 12 rfl) rfl ?_
    refine sw_iload O (xx_dt dd_L_law_17 13 rfl) rfl ?_
    refine sw_iconst (x := 3) O (xx_dt dd_L_law_17 14 rfl) (by decide) ?_
    refine sw_iadd O (xx_dt dd_L_law_17 15 rfl) ?_
    rw [show nI (5 * i) + 3 = nI (5 * i + 3) from nI_plus (5 * i) 3]
    refine sw_iaload (v := .int (xs (5 * i + 3))) O (xx_dt dd_L_law_17 16 rfl) ((hL_lo (by omega)).trans h11) (pk_in (5 * i + 3) _ (by omega)) (by rw [nI_clamp (by omega)]) ?_
    refine sw_if_eq (tgt := 1803) O (xx_dt dd_L_law_17 17 rfl) (by decide) (fun q9 => absurd q9 hb3) (fun _ => ?_)
    refine sw_iconst (x := 1) O (xx_dt dd_L_law_17 18 rfl) (by decide) ?_
    refine sw_goto (tgt := 1804) O (xx_dt dd_L_law_17 19 rfl) (by decide) ?_
    refine sw_aload_n O (xx_dt dd_L_law_17 21 rfl) rfl ?_
    rw [hL_c]
    refine xx_wid (k' := (k9 + 699) + 1) (n' := (n9 + 9994) + 6) (by omega) (by omega) (sw_callSH (k := k9 + 699) (n := n9 + 9994) (k' := 1) (n' := 6) (as := [.ref 1000, .int (xs (5 * i + 1)), .int (xs (5 * i + 2)), .int 1, .ref 4500]) (st := []) (st2 := [.int (lw_k [eIOB] o)]) O (lw_ofPackage hl (hC _ ⟨h0, z, τ, n, s, hB, rfl⟩) (ly_1000 σ _) (F := fO n (sO s)) ((setC_out (by omega)).trans ((setM_out (by omega)).trans hO_4500)) hE) ch_L_ofPackage mk_L_219 st_L_ofPackage (xx_dt dd_L_law_17 22 rfl) (by decide) rfl rfl (Nat.le_of_ble_eq_true rfl) rfl ?_)
    rw [lw_g_e]
    refine sw_istore (ls2 := [.ref 11, .ref 1000, .ref 5000, .ref 4500, .int (nI (5 * i)), .int (lw_k [eIOB] o), xx_d]) O (xx_dt dd_L_law_17 23 rfl) (by decide) rfl ?_
    obtain ⟨kT, ekT⟩ : ∃ q, q = k9 + 699 := ⟨_, rfl⟩
    obtain ⟨nT, enT⟩ : ∃ q, q = n9 + 9994 := ⟨_, rfl⟩
    refine xx_wid (k' := kT) (n' := nT) (by omega) (by omega) ?_
    show SW Y _ _ (setM z τ (setC σ' (hO h0 (lw_n n o Int32.toInt64) s))) 1810 [.ref 11, .ref 1000, .ref 5000, .ref 4500, .int (nI (5 * i)), .int (lw_k [eIOB] o), xx_d] []
    refine sw_aload_n O (xx_dt dd_L_law_17 24 rfl) rfl ?_
    refine sw_aload_n O (xx_dt dd_L_law_17 25 rfl) rfl ?_
    refine sw_iload O (xx_dt dd_L_law_17 26 rfl) rfl ?_
    refine sw_iconst (x := 1) O (xx_dt dd_L_law_17 27 rfl) (by decide) ?_
    refine sw_iadd O (xx_dt dd_L_law_17 28 rfl) ?_
    rw [show nI (5 * i) + 1 = nI (5 * i + 1) from nI_plus (5 * i) 1]
    refine sw_iaload (v := .int (xs (5 * i + 1))) O (xx_dt dd_L_law_17 29 rfl) ((setM_out (by omega)).trans ((setC_out (by omega)).trans ((hO_o (by omega) (by omega) (by omega)).trans h11))) (pk_in (5 * i + 1) _ (by omega)) (by rw [nI_clamp (by omega)]) ?_
    refine sw_aload_n O (xx_dt dd_L_law_17 30 rfl) rfl ?_
    refine sw_iload O (xx_dt dd_L_law_17 31 rfl) rfl ?_
    refine sw_iconst (x := 2) O (xx_dt dd_L_law_17 32 rfl) (by decide) ?_
    refine sw_iadd O (xx_dt dd_L_law_17 33 rfl) ?_
    rw [show nI (5 * i) + 2 = nI (5 * i + 2) from nI_plus (5 * i) 2]
    refine sw_iaload (v := .int (xs (5 * i + 2))) O (xx_dt dd_L_law_17 34 rfl) ((setM_out (by omega)).trans ((setC_out (by omega)).trans ((hO_o (by omega) (by omega) (by omega)).trans h11))) (pk_in (5 * i + 2) _ (by omega)) (by rw [nI_clamp (by omega)]) ?_
    refine sw_aload_n O (xx_dt dd_L_law_17 35 rfl) rfl ?_
    refine sw_iload O (xx_dt dd_L_law_17 36 rfl) rfl ?_
    refine sw_iconst (x := 3) O (xx_dt dd_L_law_17 37 rfl) (by decide) ?_
    refine sw_iadd O (xx_dt dd_L_law_17 38 rfl) ?_
    rw [show nI (5 * i) + 3 = nI (5 * i + 3) from nI_plus (5 * i) 3]
    refine sw_iaload (v := .int (xs (5 * i + 3))) O (xx_dt dd_L_law_17 39 rfl) ((setM_out (by omega)).trans ((setC_out (by omega)).trans ((hO_o (by omega) (by omega) (by omega)).trans h11))) (pk_in (5 * i + 3) _ (by omega)) (by rw [nI_clamp (by omega)]) ?_
    refine sw_if_eq (tgt := 1836) O (xx_dt dd_L_law_17 40 rfl) (by decide) (fun q9 => absurd q9 hb3) (fun _ => ?_)
    refine sw_iconst (x := 1) O (xx_dt dd_L_law_17 41 rfl) (by decide) ?_
    refine sw_goto (tgt := 1837) O (xx_dt dd_L_law_17 42 rfl) (by decide) ?_
    refine xx_wid (k' := (k9 + 699) + 0) (n' := (n9 + 9994) + 0) (by omega) (by omega) (sw_callVx (k := k9 + 699) (n := n9 + 9994) (k' := 0) (n' := 0) (as := [.int (xs (5 * i + 1)), .int (xs (5 * i + 2)), .int 1]) (st := []) (st2 := [.int v]) O (hM _ ⟨h0, σ', _, s, hB, rfl⟩) ce_X14_ofPackage ml_L_221 iv_X14_ofPackage cl_X14 rfl lm_mod (xx_dt dd_L_law_17 44 rfl) (by decide) rfl rfl (Nat.le_of_ble_eq_true rfl) rfl ?_)
    refine sw_istore (ls2 := [.ref 11, .ref 1000, .ref 5000, .ref 4500, .int (nI (5 * i)), .int (lw_k [eIOB] o), .int v]) O (xx_dt dd_L_law_17 45 rfl) (by decide) rfl ?_
    refine sw_aload_n O (xx_dt dd_L_law_17 46 rfl) rfl ?_
    obtain ⟨kT, ekT⟩ : ∃ q, q = k9 + 699 := ⟨_, rfl⟩
    obtain ⟨nT, enT⟩ : ∃ q, q = n9 + 9994 := ⟨_, rfl⟩
    refine xx_wid (k' := kT) (n' := nT) (by omega) (by omega) ?_
    refine sw_callVx (as := []) (st := []) (st2 := [.int (f_Mthrown τ')]) O (ct_X14_thrown hl (okM.bs ⟨h0, σ', _, s, hB, rfl⟩)) ce_X14_thrown ml_L_147 iv_X14_thrown cl_X14 rfl lm_mod (xx_dt dd_L_law_17 47 rfl) (by decide) rfl rfl (Nat.le_of_ble_eq_true rfl) rfl ?_
    refine sw_iload O (xx_dt dd_L_law_17 48 rfl) rfl ?_
    refine sw_icmp_eq (tgt := 1853) O (xx_dt dd_L_law_17 49 rfl) (by decide) (fun _ => ?_) (fun q9 => absurd (show f_Mthrown τ' = _ from hT) q9)
    refine sw_iload O (xx_dt dd_L_law_17 52 rfl) rfl ?_
    cases o with
    | inr E =>
      refine sw_if_ne (tgt := 1871) O (xx_dt dd_L_law_17 53 rfl) (by decide) (fun _ => ?_) (fun q9 => ?_)
      · refine sw_goto (tgt := 2654) O (xx_dt dd_L_law_18 2 rfl) (by decide) ?_
        refine sw_dum (ls2 := [.ref 11, .ref 1000, .ref 5000, .ref 4500, .int (nI (5 * i)), xx_d, xx_d]) ⟨.inr rfl, .inr rfl, .inr rfl, .inr rfl, .inr rfl, .inl rfl, .inl rfl, trivial⟩ ?_
        refine xx_wid (k' := k9) (n' := n9) (by omega) (by omega) ?_
        exact kk z' τ' σ' _ hI'
      · exfalso
        rcases hE E rfl with rfl
        · revert q9; decide
    | inl w =>
      obtain rfl := hV w rfl
      refine sw_if_ne (tgt := 1871) O (xx_dt dd_L_law_17 53 rfl) (by decide) (fun q9 => absurd rfl q9) (fun _ => ?_)
      refine sw_aload_n O (xx_dt dd_L_law_17 54 rfl) rfl ?_
      refine sw_get (v := .long (Int32.toInt64 w)) O (xx_dt dd_L_law_17 55 rfl) cl_X8 fl_L_13 ((setM_out (by omega)).trans ((setC_out (by omega)).trans hO_4500)) (by decide) rfl ?_
      refine sw_iload O (xx_dt dd_L_law_17 56 rfl) rfl ?_
      refine sw_i2l O (xx_dt dd_L_law_17 57 rfl) ?_
      refine sw_lcmp O (xx_dt dd_L_law_17 58 rfl) ?_
      refine sw_if_eq (tgt := 1871) O (xx_dt dd_L_law_17 59 rfl) (by decide) (fun _ => ?_) (fun q9 => absurd (lw_cmp _) q9)
      refine sw_goto (tgt := 2654) O (xx_dt dd_L_law_18 2 rfl) (by decide) ?_
      refine sw_dum (ls2 := [.ref 11, .ref 1000, .ref 5000, .ref 4500, .int (nI (5 * i)), xx_d, xx_d]) ⟨.inr rfl, .inr rfl, .inr rfl, .inr rfl, .inr rfl, .inl rfl, .inl rfl, trivial⟩ ?_
      refine xx_wid (k' := k9) (n' := n9) (by omega) (by omega) ?_
      exact kk z' τ' σ' _ hI'
theorem lc_23 {Y : XY} {l : Launch} {h0 : XH} {xs : Nat → Int32} {len i : Nat} {n : Int64} {s : Option (Nat × (Nat → Value))} {z : Int64} {τ σ : XS9} {LI : XS9 → XS9 → Prop} (O : xx_O Y m_L_law l 40) (hl : l.stackTraces = false) (hB : okB h0) (h11 : h0 11 = some (100, len, fun j => .int (xs j))) (hi : 5 * i + 5 ≤ len) (hlen : len ≤ 2560) (hI : LI τ σ) (hif : IF_wins l LI) {k9 n9 : Nat} (kk : ∀ z τ σ n, LI τ σ → SW Y k9 n9 (hL h0 z τ σ n s) 2654 [.ref 11, .ref 1000, .ref 5000, .ref 4500, .int (nI (5 * i)), xx_d, xx_d] []) : SW Y (k9 + 700) (n9 + 10000) (hL h0 z τ σ n s) 1874 [.ref 11, .ref 1000, .ref 5000, .ref 4500, .int (nI (5 * i)), xx_d, xx_d] [] := by
  obtain ⟨kT, ekT⟩ : ∃ q, q = k9 + 700 := ⟨_, rfl⟩
  obtain ⟨nT, enT⟩ : ∃ q, q = n9 + 10000 := ⟨_, rfl⟩
  refine xx_wid (k' := kT) (n' := nT) (by omega) (by omega) ?_
  obtain ⟨o, σ', v, z', τ', hC, hE, hM, hI', hT, hV⟩ := hif z τ σ (xs (5 * i + 1)) hI
  refine sw_aload_n O (xx_dt dd_L_law_18 3 rfl) rfl ?_
  refine sw_aload_n O (xx_dt dd_L_law_18 4 rfl) rfl ?_
  refine sw_iload O (xx_dt dd_L_law_18 5 rfl) rfl ?_
  refine sw_iconst (x := 1) O (xx_dt dd_L_law_18 6 rfl) (by decide) ?_
  refine sw_iadd O (xx_dt dd_L_law_18 7 rfl) ?_
  rw [show nI (5 * i) + 1 = nI (5 * i + 1) from nI_plus (5 * i) 1]
  refine sw_iaload (v := .int (xs (5 * i + 1))) O (xx_dt dd_L_law_18 8 rfl) ((hL_lo (by omega)).trans h11) (pk_in (5 * i + 1) _ (by omega)) (by rw [nI_clamp (by omega)]) ?_
  refine sw_aload_n O (xx_dt dd_L_law_18 9 rfl) rfl ?_
  rw [hL_c]
  refine xx_wid (k' := (k9 + 699) + 1) (n' := (n9 + 9994) + 6) (by omega) (by omega) (sw_callSH (k := k9 + 699) (n := n9 + 9994) (k' := 1) (n' := 6) (as := [.ref 1000, .int (xs (5 * i + 1)), .ref 4500]) (st := []) (st2 := [.int (lw_k [eIOB] o)]) O (lw_wins hl (hC _ ⟨h0, z, τ, n, s, hB, rfl⟩) (ly_1000 σ _) (F := fO n (sO s)) ((setC_out (by omega)).trans ((setM_out (by omega)).trans hO_4500)) hE) ch_L_wins mk_L_222 st_L_wins (xx_dt dd_L_law_18 10 rfl) (by decide) rfl rfl (Nat.le_of_ble_eq_true rfl) rfl ?_)
  rw [lw_g_e]
  refine sw_istore (ls2 := [.ref 11, .ref 1000, .ref 5000, .ref 4500, .int (nI (5 * i)), .int (lw_k [eIOB] o), xx_d]) O (xx_dt dd_L_law_18 11 rfl) (by decide) rfl ?_
  obtain ⟨kT, ekT⟩ : ∃ q, q = k9 + 699 := ⟨_, rfl⟩
  obtain ⟨nT, enT⟩ : ∃ q, q = n9 + 9994 := ⟨_, rfl⟩
  refine xx_wid (k' := kT) (n' := nT) (by omega) (by omega) ?_
  show SW Y _ _ (setM z τ (setC σ' (hO h0 (lw_n n o Int32.toInt64) s))) 1887 [.ref 11, .ref 1000, .ref 5000, .ref 4500, .int (nI (5 * i)), .int (lw_k [eIOB] o), xx_d] []
  refine sw_aload_n O (xx_dt dd_L_law_18 12 rfl) rfl ?_
  refine sw_aload_n O (xx_dt dd_L_law_18 13 rfl) rfl ?_
  refine sw_iload O (xx_dt dd_L_law_18 14 rfl) rfl ?_
  refine sw_iconst (x := 1) O (xx_dt dd_L_law_18 15 rfl) (by decide) ?_
  refine sw_iadd O (xx_dt dd_L_law_18 16 rfl) ?_
  rw [show nI (5 * i) + 1 = nI (5 * i + 1) from nI_plus (5 * i) 1]
  refine sw_iaload (v := .int (xs (5 * i + 1))) O (xx_dt dd_L_law_18 17 rfl) ((setM_out (by omega)).trans ((setC_out (by omega)).trans ((hO_o (by omega) (by omega) (by omega)).trans h11))) (pk_in (5 * i + 1) _ (by omega)) (by rw [nI_clamp (by omega)]) ?_
  refine xx_wid (k' := (k9 + 693) + 6) (n' := (n9 + 9886) + 108) (by omega) (by omega) (sw_callVx (k := k9 + 693) (n := n9 + 9886) (k' := 6) (n' := 108) (as := [.int (xs (5 * i + 1))]) (st := []) (st2 := [.int v]) O (hM _ ⟨h0, σ', _, s, hB, rfl⟩) ce_X14_wins ml_L_224 iv_X14_wins cl_X14 rfl lm_mod (xx_dt dd_L_law_18 18 rfl) (by decide) rfl rfl (Nat.le_of_ble_eq_true rfl) rfl ?_)
  refine sw_istore (ls2 := [.ref 11, .ref 1000, .ref 5000, .ref 4500, .int (nI (5 * i)), .int (lw_k [eIOB] o), .int v]) O (xx_dt dd_L_law_18 19 rfl) (by decide) rfl ?_
  refine sw_aload_n O (xx_dt dd_L_law_18 20 rfl) rfl ?_
  obtain ⟨kT, ekT⟩ : ∃ q, q = k9 + 693 := ⟨_, rfl⟩
  obtain ⟨nT, enT⟩ : ∃ q, q = n9 + 9886 := ⟨_, rfl⟩
  refine xx_wid (k' := kT) (n' := nT) (by omega) (by omega) ?_
  refine sw_callVx (as := []) (st := []) (st2 := [.int (f_Mthrown τ')]) O (ct_X14_thrown hl (okM.bs ⟨h0, σ', _, s, hB, rfl⟩)) ce_X14_thrown ml_L_147 iv_X14_thrown cl_X14 rfl lm_mod (xx_dt dd_L_law_18 21 rfl) (by decide) rfl rfl (Nat.le_of_ble_eq_true rfl) rfl ?_
  refine sw_iload O (xx_dt dd_L_law_18 22 rfl) rfl ?_
  refine sw_icmp_eq (tgt := 1910) O (xx_dt dd_L_law_18 23 rfl) (by decide) (fun _ => ?_) (fun q9 => absurd (show f_Mthrown τ' = _ from hT) q9)
  refine sw_iload O (xx_dt dd_L_law_18 26 rfl) rfl ?_
  cases o with
  | inr E =>
    refine sw_if_ne (tgt := 1928) O (xx_dt dd_L_law_18 27 rfl) (by decide) (fun _ => ?_) (fun q9 => ?_)
    · refine sw_goto (tgt := 2654) O (xx_dt dd_L_law_18 36 rfl) (by decide) ?_
      refine sw_dum (ls2 := [.ref 11, .ref 1000, .ref 5000, .ref 4500, .int (nI (5 * i)), xx_d, xx_d]) ⟨.inr rfl, .inr rfl, .inr rfl, .inr rfl, .inr rfl, .inl rfl, .inl rfl, trivial⟩ ?_
      refine xx_wid (k' := k9) (n' := n9) (by omega) (by omega) ?_
      exact kk z' τ' σ' _ hI'
    · exfalso
      rcases hE E rfl with rfl
      · revert q9; decide
  | inl w =>
    obtain rfl := hV w rfl
    refine sw_if_ne (tgt := 1928) O (xx_dt dd_L_law_18 27 rfl) (by decide) (fun q9 => absurd rfl q9) (fun _ => ?_)
    refine sw_aload_n O (xx_dt dd_L_law_18 28 rfl) rfl ?_
    refine sw_get (v := .long (Int32.toInt64 w)) O (xx_dt dd_L_law_18 29 rfl) cl_X8 fl_L_13 ((setM_out (by omega)).trans ((setC_out (by omega)).trans hO_4500)) (by decide) rfl ?_
    refine sw_iload O (xx_dt dd_L_law_18 30 rfl) rfl ?_
    refine sw_i2l O (xx_dt dd_L_law_18 31 rfl) ?_
    refine sw_lcmp O (xx_dt dd_L_law_18 32 rfl) ?_
    refine sw_if_eq (tgt := 1928) O (xx_dt dd_L_law_18 33 rfl) (by decide) (fun _ => ?_) (fun q9 => absurd (lw_cmp _) q9)
    refine sw_goto (tgt := 2654) O (xx_dt dd_L_law_18 36 rfl) (by decide) ?_
    refine sw_dum (ls2 := [.ref 11, .ref 1000, .ref 5000, .ref 4500, .int (nI (5 * i)), xx_d, xx_d]) ⟨.inr rfl, .inr rfl, .inr rfl, .inr rfl, .inr rfl, .inl rfl, .inl rfl, trivial⟩ ?_
    refine xx_wid (k' := k9) (n' := n9) (by omega) (by omega) ?_
    exact kk z' τ' σ' _ hI'
theorem lc_24 {Y : XY} {l : Launch} {h0 : XH} {xs : Nat → Int32} {len i : Nat} {n : Int64} {s : Option (Nat × (Nat → Value))} {z : Int64} {τ σ : XS9} {LI : XS9 → XS9 → Prop} (O : xx_O Y m_L_law l 40) (hl : l.stackTraces = false) (hB : okB h0) (h11 : h0 11 = some (100, len, fun j => .int (xs j))) (hi : 5 * i + 5 ≤ len) (hlen : len ≤ 2560) (hI : LI τ σ) (hif : IF_pays l LI) {k9 n9 : Nat} (kk : ∀ z τ σ n, LI τ σ → SW Y k9 n9 (hL h0 z τ σ n s) 2654 [.ref 11, .ref 1000, .ref 5000, .ref 4500, .int (nI (5 * i)), xx_d, xx_d] []) : SW Y (k9 + 700) (n9 + 10000) (hL h0 z τ σ n s) 1931 [.ref 11, .ref 1000, .ref 5000, .ref 4500, .int (nI (5 * i)), xx_d, xx_d] [] := by
  obtain ⟨kT, ekT⟩ : ∃ q, q = k9 + 700 := ⟨_, rfl⟩
  obtain ⟨nT, enT⟩ : ∃ q, q = n9 + 10000 := ⟨_, rfl⟩
  refine xx_wid (k' := kT) (n' := nT) (by omega) (by omega) ?_
  by_cases hb2 : xs (5 * i + 2) = 0
  · obtain ⟨o, σ', v, z', τ', hC, hE, hM, hI', hT, hV⟩ := hif z τ σ (xs (5 * i + 1)) (0) hI (.inl rfl)
    refine sw_aload_n O (xx_dt dd_L_law_18 37 rfl) rfl ?_
    refine sw_aload_n O (xx_dt dd_L_law_18 38 rfl) rfl ?_
    refine sw_iload O (xx_dt dd_L_law_18 39 rfl) rfl ?_
    refine sw_iconst (x := 1) O (xx_dt dd_L_law_18 40 rfl) (by decide) ?_
    refine sw_iadd O (xx_dt dd_L_law_18 41 rfl) ?_
    rw [show nI (5 * i) + 1 = nI (5 * i + 1) from nI_plus (5 * i) 1]
    refine sw_iaload (v := .int (xs (5 * i + 1))) O (xx_dt dd_L_law_18 42 rfl) ((hL_lo (by omega)).trans h11) (pk_in (5 * i + 1) _ (by omega)) (by rw [nI_clamp (by omega)]) ?_
    refine sw_aload_n O (xx_dt dd_L_law_18 43 rfl) rfl ?_
    refine sw_iload O (xx_dt dd_L_law_18 44 rfl) rfl ?_
    refine sw_iconst (x := 2) O (xx_dt dd_L_law_18 45 rfl) (by decide) ?_
    refine sw_iadd O (xx_dt dd_L_law_18 46 rfl) ?_
    rw [show nI (5 * i) + 2 = nI (5 * i + 2) from nI_plus (5 * i) 2]
    refine sw_iaload (v := .int (xs (5 * i + 2))) O (xx_dt dd_L_law_18 47 rfl) ((hL_lo (by omega)).trans h11) (pk_in (5 * i + 2) _ (by omega)) (by rw [nI_clamp (by omega)]) ?_
    refine sw_if_eq (tgt := 1951) O (xx_dt dd_L_law_18 48 rfl) (by decide) (fun _ => ?_) (fun q9 => absurd hb2 q9)
    refine sw_iconst (x := 0) O (xx_dt dd_L_law_18 51 rfl) (by decide) ?_
    refine sw_aload_n O (xx_dt dd_L_law_18 52 rfl) rfl ?_
    rw [hL_c]
    refine xx_wid (k' := (k9 + 699) + 1) (n' := (n9 + 9994) + 6) (by omega) (by omega) (sw_callSH (k := k9 + 699) (n := n9 + 9994) (k' := 1) (n' := 6) (as := [.ref 1000, .int (xs (5 * i + 1)), .int 0, .ref 4500]) (st := []) (st2 := [.int (lw_k [eIOB] o)]) O (lw_pays hl (hC _ ⟨h0, z, τ, n, s, hB, rfl⟩) (ly_1000 σ _) (F := fO n (sO s)) ((setC_out (by omega)).trans ((setM_out (by omega)).trans hO_4500)) hE) ch_L_pays mk_L_225 st_L_pays (xx_dt dd_L_law_18 53 rfl) (by decide) rfl rfl (Nat.le_of_ble_eq_true rfl) rfl ?_)
    rw [lw_g_e]
    refine sw_istore (ls2 := [.ref 11, .ref 1000, .ref 5000, .ref 4500, .int (nI (5 * i)), .int (lw_k [eIOB] o), xx_d]) O (xx_dt dd_L_law_18 54 rfl) (by decide) rfl ?_
    obtain ⟨kT, ekT⟩ : ∃ q, q = k9 + 699 := ⟨_, rfl⟩
    obtain ⟨nT, enT⟩ : ∃ q, q = n9 + 9994 := ⟨_, rfl⟩
    refine xx_wid (k' := kT) (n' := nT) (by omega) (by omega) ?_
    show SW Y _ _ (setM z τ (setC σ' (hO h0 (lw_n n o Int32.toInt64) s))) 1958 [.ref 11, .ref 1000, .ref 5000, .ref 4500, .int (nI (5 * i)), .int (lw_k [eIOB] o), xx_d] []
    refine sw_aload_n O (xx_dt dd_L_law_18 55 rfl) rfl ?_
    refine sw_aload_n O (xx_dt dd_L_law_18 56 rfl) rfl ?_
    refine sw_iload O (xx_dt dd_L_law_18 57 rfl) rfl ?_
    refine sw_iconst (x := 1) O (xx_dt dd_L_law_18 58 rfl) (by decide) ?_
    refine sw_iadd O (xx_dt dd_L_law_18 59 rfl) ?_
    rw [show nI (5 * i) + 1 = nI (5 * i + 1) from nI_plus (5 * i) 1]
    refine sw_iaload (v := .int (xs (5 * i + 1))) O (xx_dt dd_L_law_19 0 rfl) ((setM_out (by omega)).trans ((setC_out (by omega)).trans ((hO_o (by omega) (by omega) (by omega)).trans h11))) (pk_in (5 * i + 1) _ (by omega)) (by rw [nI_clamp (by omega)]) ?_
    refine sw_aload_n O (xx_dt dd_L_law_19 1 rfl) rfl ?_
    refine sw_iload O (xx_dt dd_L_law_19 2 rfl) rfl ?_
    refine sw_iconst (x := 2) O (xx_dt dd_L_law_19 3 rfl) (by decide) ?_
    refine sw_iadd O (xx_dt dd_L_law_19 4 rfl) ?_
    rw [show nI (5 * i) + 2 = nI (5 * i + 2) from nI_plus (5 * i) 2]
    refine sw_iaload (v := .int (xs (5 * i + 2))) O (xx_dt dd_L_law_19 5 rfl) ((setM_out (by omega)).trans ((setC_out (by omega)).trans ((hO_o (by omega) (by omega) (by omega)).trans h11))) (pk_in (5 * i + 2) _ (by omega)) (by rw [nI_clamp (by omega)]) ?_
    refine sw_if_eq (tgt := 1978) O (xx_dt dd_L_law_19 6 rfl) (by decide) (fun _ => ?_) (fun q9 => absurd hb2 q9)
    refine sw_iconst (x := 0) O (xx_dt dd_L_law_19 9 rfl) (by decide) ?_
    refine xx_wid (k' := (k9 + 699) + 0) (n' := (n9 + 9994) + 0) (by omega) (by omega) (sw_callVx (k := k9 + 699) (n := n9 + 9994) (k' := 0) (n' := 0) (as := [.int (xs (5 * i + 1)), .int 0]) (st := []) (st2 := [.int v]) O (hM _ ⟨h0, σ', _, s, hB, rfl⟩) ce_X14_pays ml_L_227 iv_X14_pays cl_X14 rfl lm_mod (xx_dt dd_L_law_19 10 rfl) (by decide) rfl rfl (Nat.le_of_ble_eq_true rfl) rfl ?_)
    refine sw_istore (ls2 := [.ref 11, .ref 1000, .ref 5000, .ref 4500, .int (nI (5 * i)), .int (lw_k [eIOB] o), .int v]) O (xx_dt dd_L_law_19 11 rfl) (by decide) rfl ?_
    refine sw_aload_n O (xx_dt dd_L_law_19 12 rfl) rfl ?_
    obtain ⟨kT, ekT⟩ : ∃ q, q = k9 + 699 := ⟨_, rfl⟩
    obtain ⟨nT, enT⟩ : ∃ q, q = n9 + 9994 := ⟨_, rfl⟩
    refine xx_wid (k' := kT) (n' := nT) (by omega) (by omega) ?_
    refine sw_callVx (as := []) (st := []) (st2 := [.int (f_Mthrown τ')]) O (ct_X14_thrown hl (okM.bs ⟨h0, σ', _, s, hB, rfl⟩)) ce_X14_thrown ml_L_147 iv_X14_thrown cl_X14 rfl lm_mod (xx_dt dd_L_law_19 13 rfl) (by decide) rfl rfl (Nat.le_of_ble_eq_true rfl) rfl ?_
    refine sw_iload O (xx_dt dd_L_law_19 14 rfl) rfl ?_
    refine sw_icmp_eq (tgt := 1995) O (xx_dt dd_L_law_19 15 rfl) (by decide) (fun _ => ?_) (fun q9 => absurd (show f_Mthrown τ' = _ from hT) q9)
    refine sw_iload O (xx_dt dd_L_law_19 18 rfl) rfl ?_
    cases o with
    | inr E =>
      refine sw_if_ne (tgt := 2013) O (xx_dt dd_L_law_19 19 rfl) (by decide) (fun _ => ?_) (fun q9 => ?_)
      · refine sw_goto (tgt := 2654) O (xx_dt dd_L_law_19 28 rfl) (by decide) ?_
        refine sw_dum (ls2 := [.ref 11, .ref 1000, .ref 5000, .ref 4500, .int (nI (5 * i)), xx_d, xx_d]) ⟨.inr rfl, .inr rfl, .inr rfl, .inr rfl, .inr rfl, .inl rfl, .inl rfl, trivial⟩ ?_
        refine xx_wid (k' := k9) (n' := n9) (by omega) (by omega) ?_
        exact kk z' τ' σ' _ hI'
      · exfalso
        rcases hE E rfl with rfl
        · revert q9; decide
    | inl w =>
      obtain rfl := hV w rfl
      refine sw_if_ne (tgt := 2013) O (xx_dt dd_L_law_19 19 rfl) (by decide) (fun q9 => absurd rfl q9) (fun _ => ?_)
      refine sw_aload_n O (xx_dt dd_L_law_19 20 rfl) rfl ?_
      refine sw_get (v := .long (Int32.toInt64 w)) O (xx_dt dd_L_law_19 21 rfl) cl_X8 fl_L_13 ((setM_out (by omega)).trans ((setC_out (by omega)).trans hO_4500)) (by decide) rfl ?_
      refine sw_iload O (xx_dt dd_L_law_19 22 rfl) rfl ?_
      refine sw_i2l O (xx_dt dd_L_law_19 23 rfl) ?_
      refine sw_lcmp O (xx_dt dd_L_law_19 24 rfl) ?_
      refine sw_if_eq (tgt := 2013) O (xx_dt dd_L_law_19 25 rfl) (by decide) (fun _ => ?_) (fun q9 => absurd (lw_cmp _) q9)
      refine sw_goto (tgt := 2654) O (xx_dt dd_L_law_19 28 rfl) (by decide) ?_
      refine sw_dum (ls2 := [.ref 11, .ref 1000, .ref 5000, .ref 4500, .int (nI (5 * i)), xx_d, xx_d]) ⟨.inr rfl, .inr rfl, .inr rfl, .inr rfl, .inr rfl, .inl rfl, .inl rfl, trivial⟩ ?_
      refine xx_wid (k' := k9) (n' := n9) (by omega) (by omega) ?_
      exact kk z' τ' σ' _ hI'
  · obtain ⟨o, σ', v, z', τ', hC, hE, hM, hI', hT, hV⟩ := hif z τ σ (xs (5 * i + 1)) (1) hI (.inr rfl)
    refine sw_aload_n O (xx_dt dd_L_law_18 37 rfl) rfl ?_
    refine sw_aload_n O (xx_dt dd_L_law_18 38 rfl) rfl ?_
    refine sw_iload O (xx_dt dd_L_law_18 39 rfl) rfl ?_
    refine sw_iconst (x := 1) O (xx_dt dd_L_law_18 40 rfl) (by decide) ?_
    refine sw_iadd O (xx_dt dd_L_law_18 41 rfl) ?_
    rw [show nI (5 * i) + 1 = nI (5 * i + 1) from nI_plus (5 * i) 1]
    refine sw_iaload (v := .int (xs (5 * i + 1))) O (xx_dt dd_L_law_18 42 rfl) ((hL_lo (by omega)).trans h11) (pk_in (5 * i + 1) _ (by omega)) (by rw [nI_clamp (by omega)]) ?_
    refine sw_aload_n O (xx_dt dd_L_law_18 43 rfl) rfl ?_
    refine sw_iload O (xx_dt dd_L_law_18 44 rfl) rfl ?_
    refine sw_iconst (x := 2) O (xx_dt dd_L_law_18 45 rfl) (by decide) ?_
    refine sw_iadd O (xx_dt dd_L_law_18 46 rfl) ?_
    rw [show nI (5 * i) + 2 = nI (5 * i + 2) from nI_plus (5 * i) 2]
    refine sw_iaload (v := .int (xs (5 * i + 2))) O (xx_dt dd_L_law_18 47 rfl) ((hL_lo (by omega)).trans h11) (pk_in (5 * i + 2) _ (by omega)) (by rw [nI_clamp (by omega)]) ?_
    refine sw_if_eq (tgt := 1951) O (xx_dt dd_L_law_18 48 rfl) (by decide) (fun q9 => absurd q9 hb2) (fun _ => ?_)
    refine sw_iconst (x := 1) O (xx_dt dd_L_law_18 49 rfl) (by decide) ?_
    refine sw_goto (tgt := 1952) O (xx_dt dd_L_law_18 50 rfl) (by decide) ?_
    refine sw_aload_n O (xx_dt dd_L_law_18 52 rfl) rfl ?_
    rw [hL_c]
    refine xx_wid (k' := (k9 + 699) + 1) (n' := (n9 + 9994) + 6) (by omega) (by omega) (sw_callSH (k := k9 + 699) (n := n9 + 9994) (k' := 1) (n' := 6) (as := [.ref 1000, .int (xs (5 * i + 1)), .int 1, .ref 4500]) (st := []) (st2 := [.int (lw_k [eIOB] o)]) O (lw_pays hl (hC _ ⟨h0, z, τ, n, s, hB, rfl⟩) (ly_1000 σ _) (F := fO n (sO s)) ((setC_out (by omega)).trans ((setM_out (by omega)).trans hO_4500)) hE) ch_L_pays mk_L_225 st_L_pays (xx_dt dd_L_law_18 53 rfl) (by decide) rfl rfl (Nat.le_of_ble_eq_true rfl) rfl ?_)
    rw [lw_g_e]
    refine sw_istore (ls2 := [.ref 11, .ref 1000, .ref 5000, .ref 4500, .int (nI (5 * i)), .int (lw_k [eIOB] o), xx_d]) O (xx_dt dd_L_law_18 54 rfl) (by decide) rfl ?_
    obtain ⟨kT, ekT⟩ : ∃ q, q = k9 + 699 := ⟨_, rfl⟩
    obtain ⟨nT, enT⟩ : ∃ q, q = n9 + 9994 := ⟨_, rfl⟩
    refine xx_wid (k' := kT) (n' := nT) (by omega) (by omega) ?_
    show SW Y _ _ (setM z τ (setC σ' (hO h0 (lw_n n o Int32.toInt64) s))) 1958 [.ref 11, .ref 1000, .ref 5000, .ref 4500, .int (nI (5 * i)), .int (lw_k [eIOB] o), xx_d] []
    refine sw_aload_n O (xx_dt dd_L_law_18 55 rfl) rfl ?_
    refine sw_aload_n O (xx_dt dd_L_law_18 56 rfl) rfl ?_
    refine sw_iload O (xx_dt dd_L_law_18 57 rfl) rfl ?_
    refine sw_iconst (x := 1) O (xx_dt dd_L_law_18 58 rfl) (by decide) ?_
    refine sw_iadd O (xx_dt dd_L_law_18 59 rfl) ?_
    rw [show nI (5 * i) + 1 = nI (5 * i + 1) from nI_plus (5 * i) 1]
    refine sw_iaload (v := .int (xs (5 * i + 1))) O (xx_dt dd_L_law_19 0 rfl) ((setM_out (by omega)).trans ((setC_out (by omega)).trans ((hO_o (by omega) (by omega) (by omega)).trans h11))) (pk_in (5 * i + 1) _ (by omega)) (by rw [nI_clamp (by omega)]) ?_
    refine sw_aload_n O (xx_dt dd_L_law_19 1 rfl) rfl ?_
    refine sw_iload O (xx_dt dd_L_law_19 2 rfl) rfl ?_
    refine sw_iconst (x := 2) O (xx_dt dd_L_law_19 3 rfl) (by decide) ?_
    refine sw_iadd O (xx_dt dd_L_law_19 4 rfl) ?_
    rw [show nI (5 * i) + 2 = nI (5 * i + 2) from nI_plus (5 * i) 2]
    refine sw_iaload (v := .int (xs (5 * i + 2))) O (xx_dt dd_L_law_19 5 rfl) ((setM_out (by omega)).trans ((setC_out (by omega)).trans ((hO_o (by omega) (by omega) (by omega)).trans h11))) (pk_in (5 * i + 2) _ (by omega)) (by rw [nI_clamp (by omega)]) ?_
    refine sw_if_eq (tgt := 1978) O (xx_dt dd_L_law_19 6 rfl) (by decide) (fun q9 => absurd q9 hb2) (fun _ => ?_)
    refine sw_iconst (x := 1) O (xx_dt dd_L_law_19 7 rfl) (by decide) ?_
    refine sw_goto (tgt := 1979) O (xx_dt dd_L_law_19 8 rfl) (by decide) ?_
    refine xx_wid (k' := (k9 + 699) + 0) (n' := (n9 + 9994) + 0) (by omega) (by omega) (sw_callVx (k := k9 + 699) (n := n9 + 9994) (k' := 0) (n' := 0) (as := [.int (xs (5 * i + 1)), .int 1]) (st := []) (st2 := [.int v]) O (hM _ ⟨h0, σ', _, s, hB, rfl⟩) ce_X14_pays ml_L_227 iv_X14_pays cl_X14 rfl lm_mod (xx_dt dd_L_law_19 10 rfl) (by decide) rfl rfl (Nat.le_of_ble_eq_true rfl) rfl ?_)
    refine sw_istore (ls2 := [.ref 11, .ref 1000, .ref 5000, .ref 4500, .int (nI (5 * i)), .int (lw_k [eIOB] o), .int v]) O (xx_dt dd_L_law_19 11 rfl) (by decide) rfl ?_
    refine sw_aload_n O (xx_dt dd_L_law_19 12 rfl) rfl ?_
    obtain ⟨kT, ekT⟩ : ∃ q, q = k9 + 699 := ⟨_, rfl⟩
    obtain ⟨nT, enT⟩ : ∃ q, q = n9 + 9994 := ⟨_, rfl⟩
    refine xx_wid (k' := kT) (n' := nT) (by omega) (by omega) ?_
    refine sw_callVx (as := []) (st := []) (st2 := [.int (f_Mthrown τ')]) O (ct_X14_thrown hl (okM.bs ⟨h0, σ', _, s, hB, rfl⟩)) ce_X14_thrown ml_L_147 iv_X14_thrown cl_X14 rfl lm_mod (xx_dt dd_L_law_19 13 rfl) (by decide) rfl rfl (Nat.le_of_ble_eq_true rfl) rfl ?_
    refine sw_iload O (xx_dt dd_L_law_19 14 rfl) rfl ?_
    refine sw_icmp_eq (tgt := 1995) O (xx_dt dd_L_law_19 15 rfl) (by decide) (fun _ => ?_) (fun q9 => absurd (show f_Mthrown τ' = _ from hT) q9)
    refine sw_iload O (xx_dt dd_L_law_19 18 rfl) rfl ?_
    cases o with
    | inr E =>
      refine sw_if_ne (tgt := 2013) O (xx_dt dd_L_law_19 19 rfl) (by decide) (fun _ => ?_) (fun q9 => ?_)
      · refine sw_goto (tgt := 2654) O (xx_dt dd_L_law_19 28 rfl) (by decide) ?_
        refine sw_dum (ls2 := [.ref 11, .ref 1000, .ref 5000, .ref 4500, .int (nI (5 * i)), xx_d, xx_d]) ⟨.inr rfl, .inr rfl, .inr rfl, .inr rfl, .inr rfl, .inl rfl, .inl rfl, trivial⟩ ?_
        refine xx_wid (k' := k9) (n' := n9) (by omega) (by omega) ?_
        exact kk z' τ' σ' _ hI'
      · exfalso
        rcases hE E rfl with rfl
        · revert q9; decide
    | inl w =>
      obtain rfl := hV w rfl
      refine sw_if_ne (tgt := 2013) O (xx_dt dd_L_law_19 19 rfl) (by decide) (fun q9 => absurd rfl q9) (fun _ => ?_)
      refine sw_aload_n O (xx_dt dd_L_law_19 20 rfl) rfl ?_
      refine sw_get (v := .long (Int32.toInt64 w)) O (xx_dt dd_L_law_19 21 rfl) cl_X8 fl_L_13 ((setM_out (by omega)).trans ((setC_out (by omega)).trans hO_4500)) (by decide) rfl ?_
      refine sw_iload O (xx_dt dd_L_law_19 22 rfl) rfl ?_
      refine sw_i2l O (xx_dt dd_L_law_19 23 rfl) ?_
      refine sw_lcmp O (xx_dt dd_L_law_19 24 rfl) ?_
      refine sw_if_eq (tgt := 2013) O (xx_dt dd_L_law_19 25 rfl) (by decide) (fun _ => ?_) (fun q9 => absurd (lw_cmp _) q9)
      refine sw_goto (tgt := 2654) O (xx_dt dd_L_law_19 28 rfl) (by decide) ?_
      refine sw_dum (ls2 := [.ref 11, .ref 1000, .ref 5000, .ref 4500, .int (nI (5 * i)), xx_d, xx_d]) ⟨.inr rfl, .inr rfl, .inr rfl, .inr rfl, .inr rfl, .inl rfl, .inl rfl, trivial⟩ ?_
      refine xx_wid (k' := k9) (n' := n9) (by omega) (by omega) ?_
      exact kk z' τ' σ' _ hI'
theorem lc_25 {Y : XY} {l : Launch} {h0 : XH} {xs : Nat → Int32} {len i : Nat} {n : Int64} {s : Option (Nat × (Nat → Value))} {z : Int64} {τ σ : XS9} {LI : XS9 → XS9 → Prop} (O : xx_O Y m_L_law l 40) (hl : l.stackTraces = false) (hB : okB h0) (h11 : h0 11 = some (100, len, fun j => .int (xs j))) (hi : 5 * i + 5 ≤ len) (hlen : len ≤ 2560) (hI : LI τ σ) (hif : IF_holder l LI) {k9 n9 : Nat} (kk : ∀ z τ σ n, LI τ σ → SW Y k9 n9 (hL h0 z τ σ n s) 2654 [.ref 11, .ref 1000, .ref 5000, .ref 4500, .int (nI (5 * i)), xx_d, xx_d] []) : SW Y (k9 + 700) (n9 + 10000) (hL h0 z τ σ n s) 2016 [.ref 11, .ref 1000, .ref 5000, .ref 4500, .int (nI (5 * i)), xx_d, xx_d] [] := by
  obtain ⟨kT, ekT⟩ : ∃ q, q = k9 + 700 := ⟨_, rfl⟩
  obtain ⟨nT, enT⟩ : ∃ q, q = n9 + 10000 := ⟨_, rfl⟩
  refine xx_wid (k' := kT) (n' := nT) (by omega) (by omega) ?_
  obtain ⟨o, σ', v, z', τ', hC, hE, hM, hI', hT, hV⟩ := hif z τ σ (xs (5 * i + 1)) (xs (5 * i + 2)) hI
  refine sw_aload_n O (xx_dt dd_L_law_19 29 rfl) rfl ?_
  refine sw_aload_n O (xx_dt dd_L_law_19 30 rfl) rfl ?_
  refine sw_iload O (xx_dt dd_L_law_19 31 rfl) rfl ?_
  refine sw_iconst (x := 1) O (xx_dt dd_L_law_19 32 rfl) (by decide) ?_
  refine sw_iadd O (xx_dt dd_L_law_19 33 rfl) ?_
  rw [show nI (5 * i) + 1 = nI (5 * i + 1) from nI_plus (5 * i) 1]
  refine sw_iaload (v := .int (xs (5 * i + 1))) O (xx_dt dd_L_law_19 34 rfl) ((hL_lo (by omega)).trans h11) (pk_in (5 * i + 1) _ (by omega)) (by rw [nI_clamp (by omega)]) ?_
  refine sw_aload_n O (xx_dt dd_L_law_19 35 rfl) rfl ?_
  refine sw_iload O (xx_dt dd_L_law_19 36 rfl) rfl ?_
  refine sw_iconst (x := 2) O (xx_dt dd_L_law_19 37 rfl) (by decide) ?_
  refine sw_iadd O (xx_dt dd_L_law_19 38 rfl) ?_
  rw [show nI (5 * i) + 2 = nI (5 * i + 2) from nI_plus (5 * i) 2]
  refine sw_iaload (v := .int (xs (5 * i + 2))) O (xx_dt dd_L_law_19 39 rfl) ((hL_lo (by omega)).trans h11) (pk_in (5 * i + 2) _ (by omega)) (by rw [nI_clamp (by omega)]) ?_
  refine sw_aload_n O (xx_dt dd_L_law_19 40 rfl) rfl ?_
  rw [hL_c]
  refine xx_wid (k' := (k9 + 699) + 1) (n' := (n9 + 9994) + 6) (by omega) (by omega) (sw_callSH (k := k9 + 699) (n := n9 + 9994) (k' := 1) (n' := 6) (as := [.ref 1000, .int (xs (5 * i + 1)), .int (xs (5 * i + 2)), .ref 4500]) (st := []) (st2 := [.int (lw_k [eIOB] o)]) O (lw_holder hl (hC _ ⟨h0, z, τ, n, s, hB, rfl⟩) (ly_1000 σ _) (F := fO n (sO s)) ((setC_out (by omega)).trans ((setM_out (by omega)).trans hO_4500)) hE) ch_L_holder mk_L_228 st_L_holder (xx_dt dd_L_law_19 41 rfl) (by decide) rfl rfl (Nat.le_of_ble_eq_true rfl) rfl ?_)
  rw [lw_g_e]
  refine sw_istore (ls2 := [.ref 11, .ref 1000, .ref 5000, .ref 4500, .int (nI (5 * i)), .int (lw_k [eIOB] o), xx_d]) O (xx_dt dd_L_law_19 42 rfl) (by decide) rfl ?_
  obtain ⟨kT, ekT⟩ : ∃ q, q = k9 + 699 := ⟨_, rfl⟩
  obtain ⟨nT, enT⟩ : ∃ q, q = n9 + 9994 := ⟨_, rfl⟩
  refine xx_wid (k' := kT) (n' := nT) (by omega) (by omega) ?_
  show SW Y _ _ (setM z τ (setC σ' (hO h0 (lw_n n o Int32.toInt64) s))) 2035 [.ref 11, .ref 1000, .ref 5000, .ref 4500, .int (nI (5 * i)), .int (lw_k [eIOB] o), xx_d] []
  refine sw_aload_n O (xx_dt dd_L_law_19 43 rfl) rfl ?_
  refine sw_aload_n O (xx_dt dd_L_law_19 44 rfl) rfl ?_
  refine sw_iload O (xx_dt dd_L_law_19 45 rfl) rfl ?_
  refine sw_iconst (x := 1) O (xx_dt dd_L_law_19 46 rfl) (by decide) ?_
  refine sw_iadd O (xx_dt dd_L_law_19 47 rfl) ?_
  rw [show nI (5 * i) + 1 = nI (5 * i + 1) from nI_plus (5 * i) 1]
  refine sw_iaload (v := .int (xs (5 * i + 1))) O (xx_dt dd_L_law_19 48 rfl) ((setM_out (by omega)).trans ((setC_out (by omega)).trans ((hO_o (by omega) (by omega) (by omega)).trans h11))) (pk_in (5 * i + 1) _ (by omega)) (by rw [nI_clamp (by omega)]) ?_
  refine sw_aload_n O (xx_dt dd_L_law_19 49 rfl) rfl ?_
  refine sw_iload O (xx_dt dd_L_law_19 50 rfl) rfl ?_
  refine sw_iconst (x := 2) O (xx_dt dd_L_law_19 51 rfl) (by decide) ?_
  refine sw_iadd O (xx_dt dd_L_law_19 52 rfl) ?_
  rw [show nI (5 * i) + 2 = nI (5 * i + 2) from nI_plus (5 * i) 2]
  refine sw_iaload (v := .int (xs (5 * i + 2))) O (xx_dt dd_L_law_19 53 rfl) ((setM_out (by omega)).trans ((setC_out (by omega)).trans ((hO_o (by omega) (by omega) (by omega)).trans h11))) (pk_in (5 * i + 2) _ (by omega)) (by rw [nI_clamp (by omega)]) ?_
  refine xx_wid (k' := (k9 + 699) + 0) (n' := (n9 + 9994) + 0) (by omega) (by omega) (sw_callVx (k := k9 + 699) (n := n9 + 9994) (k' := 0) (n' := 0) (as := [.int (xs (5 * i + 1)), .int (xs (5 * i + 2))]) (st := []) (st2 := [.int v]) O (hM _ ⟨h0, σ', _, s, hB, rfl⟩) ce_X14_holder ml_L_230 iv_X14_holder cl_X14 rfl lm_mod (xx_dt dd_L_law_19 54 rfl) (by decide) rfl rfl (Nat.le_of_ble_eq_true rfl) rfl ?_)
  refine sw_istore (ls2 := [.ref 11, .ref 1000, .ref 5000, .ref 4500, .int (nI (5 * i)), .int (lw_k [eIOB] o), .int v]) O (xx_dt dd_L_law_19 55 rfl) (by decide) rfl ?_
  refine sw_aload_n O (xx_dt dd_L_law_19 56 rfl) rfl ?_
  obtain ⟨kT, ekT⟩ : ∃ q, q = k9 + 699 := ⟨_, rfl⟩
  obtain ⟨nT, enT⟩ : ∃ q, q = n9 + 9994 := ⟨_, rfl⟩
  refine xx_wid (k' := kT) (n' := nT) (by omega) (by omega) ?_
  refine sw_callVx (as := []) (st := []) (st2 := [.int (f_Mthrown τ')]) O (ct_X14_thrown hl (okM.bs ⟨h0, σ', _, s, hB, rfl⟩)) ce_X14_thrown ml_L_147 iv_X14_thrown cl_X14 rfl lm_mod (xx_dt dd_L_law_19 57 rfl) (by decide) rfl rfl (Nat.le_of_ble_eq_true rfl) rfl ?_
  refine sw_iload O (xx_dt dd_L_law_19 58 rfl) rfl ?_
  refine sw_icmp_eq (tgt := 2064) O (xx_dt dd_L_law_19 59 rfl) (by decide) (fun _ => ?_) (fun q9 => absurd (show f_Mthrown τ' = _ from hT) q9)
  refine sw_iload O (xx_dt dd_L_law_20 2 rfl) rfl ?_
  cases o with
  | inr E =>
    refine sw_if_ne (tgt := 2082) O (xx_dt dd_L_law_20 3 rfl) (by decide) (fun _ => ?_) (fun q9 => ?_)
    · refine sw_goto (tgt := 2654) O (xx_dt dd_L_law_20 12 rfl) (by decide) ?_
      refine sw_dum (ls2 := [.ref 11, .ref 1000, .ref 5000, .ref 4500, .int (nI (5 * i)), xx_d, xx_d]) ⟨.inr rfl, .inr rfl, .inr rfl, .inr rfl, .inr rfl, .inl rfl, .inl rfl, trivial⟩ ?_
      refine xx_wid (k' := k9) (n' := n9) (by omega) (by omega) ?_
      exact kk z' τ' σ' _ hI'
    · exfalso
      rcases hE E rfl with rfl
      · revert q9; decide
  | inl w =>
    obtain rfl := hV w rfl
    refine sw_if_ne (tgt := 2082) O (xx_dt dd_L_law_20 3 rfl) (by decide) (fun q9 => absurd rfl q9) (fun _ => ?_)
    refine sw_aload_n O (xx_dt dd_L_law_20 4 rfl) rfl ?_
    refine sw_get (v := .long (Int32.toInt64 w)) O (xx_dt dd_L_law_20 5 rfl) cl_X8 fl_L_13 ((setM_out (by omega)).trans ((setC_out (by omega)).trans hO_4500)) (by decide) rfl ?_
    refine sw_iload O (xx_dt dd_L_law_20 6 rfl) rfl ?_
    refine sw_i2l O (xx_dt dd_L_law_20 7 rfl) ?_
    refine sw_lcmp O (xx_dt dd_L_law_20 8 rfl) ?_
    refine sw_if_eq (tgt := 2082) O (xx_dt dd_L_law_20 9 rfl) (by decide) (fun _ => ?_) (fun q9 => absurd (lw_cmp _) q9)
    refine sw_goto (tgt := 2654) O (xx_dt dd_L_law_20 12 rfl) (by decide) ?_
    refine sw_dum (ls2 := [.ref 11, .ref 1000, .ref 5000, .ref 4500, .int (nI (5 * i)), xx_d, xx_d]) ⟨.inr rfl, .inr rfl, .inr rfl, .inr rfl, .inr rfl, .inl rfl, .inl rfl, trivial⟩ ?_
    refine xx_wid (k' := k9) (n' := n9) (by omega) (by omega) ?_
    exact kk z' τ' σ' _ hI'
theorem lc_27 {Y : XY} {l : Launch} {h0 : XH} {xs : Nat → Int32} {len i : Nat} {n : Int64} {s : Option (Nat × (Nat → Value))} {z : Int64} {τ σ : XS9} {LI : XS9 → XS9 → Prop} (O : xx_O Y m_L_law l 40) (hl : l.stackTraces = false) (hB : okB h0) (h11 : h0 11 = some (100, len, fun j => .int (xs j))) (hi : 5 * i + 5 ≤ len) (hlen : len ≤ 2560) (hI : LI τ σ) (hif : IF_sale l LI) {k9 n9 : Nat} (kk : ∀ z τ σ n, LI τ σ → SW Y k9 n9 (hL h0 z τ σ n s) 2654 [.ref 11, .ref 1000, .ref 5000, .ref 4500, .int (nI (5 * i)), xx_d, xx_d] []) : SW Y (k9 + 700) (n9 + 10000) (hL h0 z τ σ n s) 2143 [.ref 11, .ref 1000, .ref 5000, .ref 4500, .int (nI (5 * i)), xx_d, xx_d] [] := by
  obtain ⟨kT, ekT⟩ : ∃ q, q = k9 + 700 := ⟨_, rfl⟩
  obtain ⟨nT, enT⟩ : ∃ q, q = n9 + 10000 := ⟨_, rfl⟩
  refine xx_wid (k' := kT) (n' := nT) (by omega) (by omega) ?_
  obtain ⟨o, σ', v, z', τ', hC, hE, hM, hI', hT, hV⟩ := hif z τ σ (xs (5 * i + 1)) hI
  refine sw_aload_n O (xx_dt dd_L_law_20 46 rfl) rfl ?_
  refine sw_aload_n O (xx_dt dd_L_law_20 47 rfl) rfl ?_
  refine sw_iload O (xx_dt dd_L_law_20 48 rfl) rfl ?_
  refine sw_iconst (x := 1) O (xx_dt dd_L_law_20 49 rfl) (by decide) ?_
  refine sw_iadd O (xx_dt dd_L_law_20 50 rfl) ?_
  rw [show nI (5 * i) + 1 = nI (5 * i + 1) from nI_plus (5 * i) 1]
  refine sw_iaload (v := .int (xs (5 * i + 1))) O (xx_dt dd_L_law_20 51 rfl) ((hL_lo (by omega)).trans h11) (pk_in (5 * i + 1) _ (by omega)) (by rw [nI_clamp (by omega)]) ?_
  refine sw_aload_n O (xx_dt dd_L_law_20 52 rfl) rfl ?_
  rw [hL_c]
  refine xx_wid (k' := (k9 + 699) + 1) (n' := (n9 + 9994) + 6) (by omega) (by omega) (sw_callSH (k := k9 + 699) (n := n9 + 9994) (k' := 1) (n' := 6) (as := [.ref 1000, .int (xs (5 * i + 1)), .ref 4500]) (st := []) (st2 := [.int (lw_k [eIAE] o)]) O (lw_sale hl (hC _ ⟨h0, z, τ, n, s, hB, rfl⟩) (ly_1000 σ _) (F := fO n (sO s)) ((setC_out (by omega)).trans ((setM_out (by omega)).trans hO_4500)) hE) ch_L_sale mk_L_240 st_L_sale (xx_dt dd_L_law_20 53 rfl) (by decide) rfl rfl (Nat.le_of_ble_eq_true rfl) rfl ?_)
  rw [lw_g_e]
  refine sw_istore (ls2 := [.ref 11, .ref 1000, .ref 5000, .ref 4500, .int (nI (5 * i)), .int (lw_k [eIAE] o), xx_d]) O (xx_dt dd_L_law_20 54 rfl) (by decide) rfl ?_
  obtain ⟨kT, ekT⟩ : ∃ q, q = k9 + 699 := ⟨_, rfl⟩
  obtain ⟨nT, enT⟩ : ∃ q, q = n9 + 9994 := ⟨_, rfl⟩
  refine xx_wid (k' := kT) (n' := nT) (by omega) (by omega) ?_
  show SW Y _ _ (setM z τ (setC σ' (hO h0 (lw_n n o Int32.toInt64) s))) 2156 [.ref 11, .ref 1000, .ref 5000, .ref 4500, .int (nI (5 * i)), .int (lw_k [eIAE] o), xx_d] []
  refine sw_aload_n O (xx_dt dd_L_law_20 55 rfl) rfl ?_
  refine sw_aload_n O (xx_dt dd_L_law_20 56 rfl) rfl ?_
  refine sw_iload O (xx_dt dd_L_law_20 57 rfl) rfl ?_
  refine sw_iconst (x := 1) O (xx_dt dd_L_law_20 58 rfl) (by decide) ?_
  refine sw_iadd O (xx_dt dd_L_law_20 59 rfl) ?_
  rw [show nI (5 * i) + 1 = nI (5 * i + 1) from nI_plus (5 * i) 1]
  refine sw_iaload (v := .int (xs (5 * i + 1))) O (xx_dt dd_L_law_21 0 rfl) ((setM_out (by omega)).trans ((setC_out (by omega)).trans ((hO_o (by omega) (by omega) (by omega)).trans h11))) (pk_in (5 * i + 1) _ (by omega)) (by rw [nI_clamp (by omega)]) ?_
  refine xx_wid (k' := (k9 + 693) + 6) (n' := (n9 + 9886) + 108) (by omega) (by omega) (sw_callVx (k := k9 + 693) (n := n9 + 9886) (k' := 6) (n' := 108) (as := [.int (xs (5 * i + 1))]) (st := []) (st2 := [.int v]) O (hM _ ⟨h0, σ', _, s, hB, rfl⟩) ce_X14_sale ml_L_242 iv_X14_sale cl_X14 rfl lm_mod (xx_dt dd_L_law_21 1 rfl) (by decide) rfl rfl (Nat.le_of_ble_eq_true rfl) rfl ?_)
  refine sw_istore (ls2 := [.ref 11, .ref 1000, .ref 5000, .ref 4500, .int (nI (5 * i)), .int (lw_k [eIAE] o), .int v]) O (xx_dt dd_L_law_21 2 rfl) (by decide) rfl ?_
  refine sw_aload_n O (xx_dt dd_L_law_21 3 rfl) rfl ?_
  obtain ⟨kT, ekT⟩ : ∃ q, q = k9 + 693 := ⟨_, rfl⟩
  obtain ⟨nT, enT⟩ : ∃ q, q = n9 + 9886 := ⟨_, rfl⟩
  refine xx_wid (k' := kT) (n' := nT) (by omega) (by omega) ?_
  refine sw_callVx (as := []) (st := []) (st2 := [.int (f_Mthrown τ')]) O (ct_X14_thrown hl (okM.bs ⟨h0, σ', _, s, hB, rfl⟩)) ce_X14_thrown ml_L_147 iv_X14_thrown cl_X14 rfl lm_mod (xx_dt dd_L_law_21 4 rfl) (by decide) rfl rfl (Nat.le_of_ble_eq_true rfl) rfl ?_
  refine sw_iload O (xx_dt dd_L_law_21 5 rfl) rfl ?_
  refine sw_icmp_eq (tgt := 2179) O (xx_dt dd_L_law_21 6 rfl) (by decide) (fun _ => ?_) (fun q9 => absurd (show f_Mthrown τ' = _ from hT) q9)
  refine sw_iload O (xx_dt dd_L_law_21 9 rfl) rfl ?_
  cases o with
  | inr E =>
    refine sw_if_ne (tgt := 2197) O (xx_dt dd_L_law_21 10 rfl) (by decide) (fun _ => ?_) (fun q9 => ?_)
    · refine sw_goto (tgt := 2654) O (xx_dt dd_L_law_21 19 rfl) (by decide) ?_
      refine sw_dum (ls2 := [.ref 11, .ref 1000, .ref 5000, .ref 4500, .int (nI (5 * i)), xx_d, xx_d]) ⟨.inr rfl, .inr rfl, .inr rfl, .inr rfl, .inr rfl, .inl rfl, .inl rfl, trivial⟩ ?_
      refine xx_wid (k' := k9) (n' := n9) (by omega) (by omega) ?_
      exact kk z' τ' σ' _ hI'
    · exfalso
      rcases hE E rfl with rfl
      · revert q9; decide
  | inl w =>
    obtain rfl := hV w rfl
    refine sw_if_ne (tgt := 2197) O (xx_dt dd_L_law_21 10 rfl) (by decide) (fun q9 => absurd rfl q9) (fun _ => ?_)
    refine sw_aload_n O (xx_dt dd_L_law_21 11 rfl) rfl ?_
    refine sw_get (v := .long (Int32.toInt64 w)) O (xx_dt dd_L_law_21 12 rfl) cl_X8 fl_L_13 ((setM_out (by omega)).trans ((setC_out (by omega)).trans hO_4500)) (by decide) rfl ?_
    refine sw_iload O (xx_dt dd_L_law_21 13 rfl) rfl ?_
    refine sw_i2l O (xx_dt dd_L_law_21 14 rfl) ?_
    refine sw_lcmp O (xx_dt dd_L_law_21 15 rfl) ?_
    refine sw_if_eq (tgt := 2197) O (xx_dt dd_L_law_21 16 rfl) (by decide) (fun _ => ?_) (fun q9 => absurd (lw_cmp _) q9)
    refine sw_goto (tgt := 2654) O (xx_dt dd_L_law_21 19 rfl) (by decide) ?_
    refine sw_dum (ls2 := [.ref 11, .ref 1000, .ref 5000, .ref 4500, .int (nI (5 * i)), xx_d, xx_d]) ⟨.inr rfl, .inr rfl, .inr rfl, .inr rfl, .inr rfl, .inl rfl, .inl rfl, trivial⟩ ?_
    refine xx_wid (k' := k9) (n' := n9) (by omega) (by omega) ?_
    exact kk z' τ' σ' _ hI'
theorem lc_28 {Y : XY} {l : Launch} {h0 : XH} {xs : Nat → Int32} {len i : Nat} {n : Int64} {s : Option (Nat × (Nat → Value))} {z : Int64} {τ σ : XS9} {LI : XS9 → XS9 → Prop} (O : xx_O Y m_L_law l 40) (hl : l.stackTraces = false) (hB : okB h0) (h11 : h0 11 = some (100, len, fun j => .int (xs j))) (hi : 5 * i + 5 ≤ len) (hlen : len ≤ 2560) (hI : LI τ σ) (hif : IF_worth l LI) {k9 n9 : Nat} (kk : ∀ z τ σ n, LI τ σ → SW Y k9 n9 (hL h0 z τ σ n s) 2654 [.ref 11, .ref 1000, .ref 5000, .ref 4500, .int (nI (5 * i)), xx_d, xx_d] []) : SW Y (k9 + 700) (n9 + 10000) (hL h0 z τ σ n s) 2200 [.ref 11, .ref 1000, .ref 5000, .ref 4500, .int (nI (5 * i)), xx_d, xx_d] [] := by
  obtain ⟨kT, ekT⟩ : ∃ q, q = k9 + 700 := ⟨_, rfl⟩
  obtain ⟨nT, enT⟩ : ∃ q, q = n9 + 10000 := ⟨_, rfl⟩
  refine xx_wid (k' := kT) (n' := nT) (by omega) (by omega) ?_
  obtain ⟨o, σ', v, z', τ', hC, hE, hM, hI', hT, hV⟩ := hif z τ σ (xs (5 * i + 1)) hI
  refine sw_aload_n O (xx_dt dd_L_law_21 20 rfl) rfl ?_
  refine sw_aload_n O (xx_dt dd_L_law_21 21 rfl) rfl ?_
  refine sw_iload O (xx_dt dd_L_law_21 22 rfl) rfl ?_
  refine sw_iconst (x := 1) O (xx_dt dd_L_law_21 23 rfl) (by decide) ?_
  refine sw_iadd O (xx_dt dd_L_law_21 24 rfl) ?_
  rw [show nI (5 * i) + 1 = nI (5 * i + 1) from nI_plus (5 * i) 1]
  refine sw_iaload (v := .int (xs (5 * i + 1))) O (xx_dt dd_L_law_21 25 rfl) ((hL_lo (by omega)).trans h11) (pk_in (5 * i + 1) _ (by omega)) (by rw [nI_clamp (by omega)]) ?_
  refine sw_aload_n O (xx_dt dd_L_law_21 26 rfl) rfl ?_
  rw [hL_c]
  refine xx_wid (k' := (k9 + 699) + 1) (n' := (n9 + 9994) + 6) (by omega) (by omega) (sw_callSH (k := k9 + 699) (n := n9 + 9994) (k' := 1) (n' := 6) (as := [.ref 1000, .int (xs (5 * i + 1)), .ref 4500]) (st := []) (st2 := [.int (lw_k [eIAE] o)]) O (lw_worth hl (hC _ ⟨h0, z, τ, n, s, hB, rfl⟩) (ly_1000 σ _) (F := fO n (sO s)) ((setC_out (by omega)).trans ((setM_out (by omega)).trans hO_4500)) hE) ch_L_worth mk_L_243 st_L_worth (xx_dt dd_L_law_21 27 rfl) (by decide) rfl rfl (Nat.le_of_ble_eq_true rfl) rfl ?_)
  rw [lw_g_e]
  refine sw_istore (ls2 := [.ref 11, .ref 1000, .ref 5000, .ref 4500, .int (nI (5 * i)), .int (lw_k [eIAE] o), xx_d]) O (xx_dt dd_L_law_21 28 rfl) (by decide) rfl ?_
  obtain ⟨kT, ekT⟩ : ∃ q, q = k9 + 699 := ⟨_, rfl⟩
  obtain ⟨nT, enT⟩ : ∃ q, q = n9 + 9994 := ⟨_, rfl⟩
  refine xx_wid (k' := kT) (n' := nT) (by omega) (by omega) ?_
  show SW Y _ _ (setM z τ (setC σ' (hO h0 (lw_n n o Int32.toInt64) s))) 2213 [.ref 11, .ref 1000, .ref 5000, .ref 4500, .int (nI (5 * i)), .int (lw_k [eIAE] o), xx_d] []
  refine sw_aload_n O (xx_dt dd_L_law_21 29 rfl) rfl ?_
  refine sw_aload_n O (xx_dt dd_L_law_21 30 rfl) rfl ?_
  refine sw_iload O (xx_dt dd_L_law_21 31 rfl) rfl ?_
  refine sw_iconst (x := 1) O (xx_dt dd_L_law_21 32 rfl) (by decide) ?_
  refine sw_iadd O (xx_dt dd_L_law_21 33 rfl) ?_
  rw [show nI (5 * i) + 1 = nI (5 * i + 1) from nI_plus (5 * i) 1]
  refine sw_iaload (v := .int (xs (5 * i + 1))) O (xx_dt dd_L_law_21 34 rfl) ((setM_out (by omega)).trans ((setC_out (by omega)).trans ((hO_o (by omega) (by omega) (by omega)).trans h11))) (pk_in (5 * i + 1) _ (by omega)) (by rw [nI_clamp (by omega)]) ?_
  refine xx_wid (k' := (k9 + 693) + 6) (n' := (n9 + 9886) + 108) (by omega) (by omega) (sw_callVx (k := k9 + 693) (n := n9 + 9886) (k' := 6) (n' := 108) (as := [.int (xs (5 * i + 1))]) (st := []) (st2 := [.int v]) O (hM _ ⟨h0, σ', _, s, hB, rfl⟩) ce_X14_worth ml_L_245 iv_X14_worth cl_X14 rfl lm_mod (xx_dt dd_L_law_21 35 rfl) (by decide) rfl rfl (Nat.le_of_ble_eq_true rfl) rfl ?_)
  refine sw_istore (ls2 := [.ref 11, .ref 1000, .ref 5000, .ref 4500, .int (nI (5 * i)), .int (lw_k [eIAE] o), .int v]) O (xx_dt dd_L_law_21 36 rfl) (by decide) rfl ?_
  refine sw_aload_n O (xx_dt dd_L_law_21 37 rfl) rfl ?_
  obtain ⟨kT, ekT⟩ : ∃ q, q = k9 + 693 := ⟨_, rfl⟩
  obtain ⟨nT, enT⟩ : ∃ q, q = n9 + 9886 := ⟨_, rfl⟩
  refine xx_wid (k' := kT) (n' := nT) (by omega) (by omega) ?_
  refine sw_callVx (as := []) (st := []) (st2 := [.int (f_Mthrown τ')]) O (ct_X14_thrown hl (okM.bs ⟨h0, σ', _, s, hB, rfl⟩)) ce_X14_thrown ml_L_147 iv_X14_thrown cl_X14 rfl lm_mod (xx_dt dd_L_law_21 38 rfl) (by decide) rfl rfl (Nat.le_of_ble_eq_true rfl) rfl ?_
  refine sw_iload O (xx_dt dd_L_law_21 39 rfl) rfl ?_
  refine sw_icmp_eq (tgt := 2236) O (xx_dt dd_L_law_21 40 rfl) (by decide) (fun _ => ?_) (fun q9 => absurd (show f_Mthrown τ' = _ from hT) q9)
  refine sw_iload O (xx_dt dd_L_law_21 43 rfl) rfl ?_
  cases o with
  | inr E =>
    refine sw_if_ne (tgt := 2254) O (xx_dt dd_L_law_21 44 rfl) (by decide) (fun _ => ?_) (fun q9 => ?_)
    · refine sw_goto (tgt := 2654) O (xx_dt dd_L_law_21 53 rfl) (by decide) ?_
      refine sw_dum (ls2 := [.ref 11, .ref 1000, .ref 5000, .ref 4500, .int (nI (5 * i)), xx_d, xx_d]) ⟨.inr rfl, .inr rfl, .inr rfl, .inr rfl, .inr rfl, .inl rfl, .inl rfl, trivial⟩ ?_
      refine xx_wid (k' := k9) (n' := n9) (by omega) (by omega) ?_
      exact kk z' τ' σ' _ hI'
    · exfalso
      rcases hE E rfl with rfl
      · revert q9; decide
  | inl w =>
    obtain rfl := hV w rfl
    refine sw_if_ne (tgt := 2254) O (xx_dt dd_L_law_21 44 rfl) (by decide) (fun q9 => absurd rfl q9) (fun _ => ?_)
    refine sw_aload_n O (xx_dt dd_L_law_21 45 rfl) rfl ?_
    refine sw_get (v := .long (Int32.toInt64 w)) O (xx_dt dd_L_law_21 46 rfl) cl_X8 fl_L_13 ((setM_out (by omega)).trans ((setC_out (by omega)).trans hO_4500)) (by decide) rfl ?_
    refine sw_iload O (xx_dt dd_L_law_21 47 rfl) rfl ?_
    refine sw_i2l O (xx_dt dd_L_law_21 48 rfl) ?_
    refine sw_lcmp O (xx_dt dd_L_law_21 49 rfl) ?_
    refine sw_if_eq (tgt := 2254) O (xx_dt dd_L_law_21 50 rfl) (by decide) (fun _ => ?_) (fun q9 => absurd (lw_cmp _) q9)
    refine sw_goto (tgt := 2654) O (xx_dt dd_L_law_21 53 rfl) (by decide) ?_
    refine sw_dum (ls2 := [.ref 11, .ref 1000, .ref 5000, .ref 4500, .int (nI (5 * i)), xx_d, xx_d]) ⟨.inr rfl, .inr rfl, .inr rfl, .inr rfl, .inr rfl, .inl rfl, .inl rfl, trivial⟩ ?_
    refine xx_wid (k' := k9) (n' := n9) (by omega) (by omega) ?_
    exact kk z' τ' σ' _ hI'
theorem lc_29 {Y : XY} {l : Launch} {h0 : XH} {xs : Nat → Int32} {len i : Nat} {n : Int64} {s : Option (Nat × (Nat → Value))} {z : Int64} {τ σ : XS9} {LI : XS9 → XS9 → Prop} (O : xx_O Y m_L_law l 40) (hl : l.stackTraces = false) (hB : okB h0) (h11 : h0 11 = some (100, len, fun j => .int (xs j))) (hi : 5 * i + 5 ≤ len) (hlen : len ≤ 2560) (hI : LI τ σ) (hif : IF_wouldPay l LI) {k9 n9 : Nat} (kk : ∀ z τ σ n, LI τ σ → SW Y k9 n9 (hL h0 z τ σ n s) 2654 [.ref 11, .ref 1000, .ref 5000, .ref 4500, .int (nI (5 * i)), xx_d, xx_d] []) : SW Y (k9 + 700) (n9 + 10000) (hL h0 z τ σ n s) 2257 [.ref 11, .ref 1000, .ref 5000, .ref 4500, .int (nI (5 * i)), xx_d, xx_d] [] := by
  obtain ⟨kT, ekT⟩ : ∃ q, q = k9 + 700 := ⟨_, rfl⟩
  obtain ⟨nT, enT⟩ : ∃ q, q = n9 + 10000 := ⟨_, rfl⟩
  refine xx_wid (k' := kT) (n' := nT) (by omega) (by omega) ?_
  obtain ⟨o, σ', v, z', τ', hC, hE, hM, hI', hT, hV⟩ := hif z τ σ (xs (5 * i + 1)) (xs (5 * i + 2)) hI
  refine sw_aload_n O (xx_dt dd_L_law_21 54 rfl) rfl ?_
  refine sw_aload_n O (xx_dt dd_L_law_21 55 rfl) rfl ?_
  refine sw_iload O (xx_dt dd_L_law_21 56 rfl) rfl ?_
  refine sw_iconst (x := 1) O (xx_dt dd_L_law_21 57 rfl) (by decide) ?_
  refine sw_iadd O (xx_dt dd_L_law_21 58 rfl) ?_
  rw [show nI (5 * i) + 1 = nI (5 * i + 1) from nI_plus (5 * i) 1]
  refine sw_iaload (v := .int (xs (5 * i + 1))) O (xx_dt dd_L_law_21 59 rfl) ((hL_lo (by omega)).trans h11) (pk_in (5 * i + 1) _ (by omega)) (by rw [nI_clamp (by omega)]) ?_
  refine sw_aload_n O (xx_dt dd_L_law_22 0 rfl) rfl ?_
  refine sw_iload O (xx_dt dd_L_law_22 1 rfl) rfl ?_
  refine sw_iconst (x := 2) O (xx_dt dd_L_law_22 2 rfl) (by decide) ?_
  refine sw_iadd O (xx_dt dd_L_law_22 3 rfl) ?_
  rw [show nI (5 * i) + 2 = nI (5 * i + 2) from nI_plus (5 * i) 2]
  refine sw_iaload (v := .int (xs (5 * i + 2))) O (xx_dt dd_L_law_22 4 rfl) ((hL_lo (by omega)).trans h11) (pk_in (5 * i + 2) _ (by omega)) (by rw [nI_clamp (by omega)]) ?_
  refine sw_aload_n O (xx_dt dd_L_law_22 5 rfl) rfl ?_
  rw [hL_c]
  refine xx_wid (k' := (k9 + 699) + 1) (n' := (n9 + 9994) + 6) (by omega) (by omega) (sw_callSH (k := k9 + 699) (n := n9 + 9994) (k' := 1) (n' := 6) (as := [.ref 1000, .int (xs (5 * i + 1)), .int (xs (5 * i + 2)), .ref 4500]) (st := []) (st2 := [.int (lw_k [eIOB, eIAE] o)]) O (lw_wouldPay hl (hC _ ⟨h0, z, τ, n, s, hB, rfl⟩) (ly_1000 σ _) (F := fO n (sO s)) ((setC_out (by omega)).trans ((setM_out (by omega)).trans hO_4500)) hE) ch_L_wouldPay mk_L_246 st_L_wouldPay (xx_dt dd_L_law_22 6 rfl) (by decide) rfl rfl (Nat.le_of_ble_eq_true rfl) rfl ?_)
  rw [lw_g_e]
  refine sw_istore (ls2 := [.ref 11, .ref 1000, .ref 5000, .ref 4500, .int (nI (5 * i)), .int (lw_k [eIOB, eIAE] o), xx_d]) O (xx_dt dd_L_law_22 7 rfl) (by decide) rfl ?_
  obtain ⟨kT, ekT⟩ : ∃ q, q = k9 + 699 := ⟨_, rfl⟩
  obtain ⟨nT, enT⟩ : ∃ q, q = n9 + 9994 := ⟨_, rfl⟩
  refine xx_wid (k' := kT) (n' := nT) (by omega) (by omega) ?_
  show SW Y _ _ (setM z τ (setC σ' (hO h0 (lw_n n o Int32.toInt64) s))) 2276 [.ref 11, .ref 1000, .ref 5000, .ref 4500, .int (nI (5 * i)), .int (lw_k [eIOB, eIAE] o), xx_d] []
  refine sw_aload_n O (xx_dt dd_L_law_22 8 rfl) rfl ?_
  refine sw_aload_n O (xx_dt dd_L_law_22 9 rfl) rfl ?_
  refine sw_iload O (xx_dt dd_L_law_22 10 rfl) rfl ?_
  refine sw_iconst (x := 1) O (xx_dt dd_L_law_22 11 rfl) (by decide) ?_
  refine sw_iadd O (xx_dt dd_L_law_22 12 rfl) ?_
  rw [show nI (5 * i) + 1 = nI (5 * i + 1) from nI_plus (5 * i) 1]
  refine sw_iaload (v := .int (xs (5 * i + 1))) O (xx_dt dd_L_law_22 13 rfl) ((setM_out (by omega)).trans ((setC_out (by omega)).trans ((hO_o (by omega) (by omega) (by omega)).trans h11))) (pk_in (5 * i + 1) _ (by omega)) (by rw [nI_clamp (by omega)]) ?_
  refine sw_aload_n O (xx_dt dd_L_law_22 14 rfl) rfl ?_
  refine sw_iload O (xx_dt dd_L_law_22 15 rfl) rfl ?_
  refine sw_iconst (x := 2) O (xx_dt dd_L_law_22 16 rfl) (by decide) ?_
  refine sw_iadd O (xx_dt dd_L_law_22 17 rfl) ?_
  rw [show nI (5 * i) + 2 = nI (5 * i + 2) from nI_plus (5 * i) 2]
  refine sw_iaload (v := .int (xs (5 * i + 2))) O (xx_dt dd_L_law_22 18 rfl) ((setM_out (by omega)).trans ((setC_out (by omega)).trans ((hO_o (by omega) (by omega) (by omega)).trans h11))) (pk_in (5 * i + 2) _ (by omega)) (by rw [nI_clamp (by omega)]) ?_
  refine xx_wid (k' := (k9 + 692) + 7) (n' := (n9 + 9880) + 114) (by omega) (by omega) (sw_callVx (k := k9 + 692) (n := n9 + 9880) (k' := 7) (n' := 114) (as := [.int (xs (5 * i + 1)), .int (xs (5 * i + 2))]) (st := []) (st2 := [.int v]) O (hM _ ⟨h0, σ', _, s, hB, rfl⟩) ce_X14_wouldPay ml_L_248 iv_X14_wouldPay cl_X14 rfl lm_mod (xx_dt dd_L_law_22 19 rfl) (by decide) rfl rfl (Nat.le_of_ble_eq_true rfl) rfl ?_)
  refine sw_istore (ls2 := [.ref 11, .ref 1000, .ref 5000, .ref 4500, .int (nI (5 * i)), .int (lw_k [eIOB, eIAE] o), .int v]) O (xx_dt dd_L_law_22 20 rfl) (by decide) rfl ?_
  refine sw_aload_n O (xx_dt dd_L_law_22 21 rfl) rfl ?_
  obtain ⟨kT, ekT⟩ : ∃ q, q = k9 + 692 := ⟨_, rfl⟩
  obtain ⟨nT, enT⟩ : ∃ q, q = n9 + 9880 := ⟨_, rfl⟩
  refine xx_wid (k' := kT) (n' := nT) (by omega) (by omega) ?_
  refine sw_callVx (as := []) (st := []) (st2 := [.int (f_Mthrown τ')]) O (ct_X14_thrown hl (okM.bs ⟨h0, σ', _, s, hB, rfl⟩)) ce_X14_thrown ml_L_147 iv_X14_thrown cl_X14 rfl lm_mod (xx_dt dd_L_law_22 22 rfl) (by decide) rfl rfl (Nat.le_of_ble_eq_true rfl) rfl ?_
  refine sw_iload O (xx_dt dd_L_law_22 23 rfl) rfl ?_
  refine sw_icmp_eq (tgt := 2305) O (xx_dt dd_L_law_22 24 rfl) (by decide) (fun _ => ?_) (fun q9 => absurd (show f_Mthrown τ' = _ from hT) q9)
  refine sw_iload O (xx_dt dd_L_law_22 27 rfl) rfl ?_
  cases o with
  | inr E =>
    refine sw_if_ne (tgt := 2323) O (xx_dt dd_L_law_22 28 rfl) (by decide) (fun _ => ?_) (fun q9 => ?_)
    · refine sw_goto (tgt := 2654) O (xx_dt dd_L_law_22 37 rfl) (by decide) ?_
      refine sw_dum (ls2 := [.ref 11, .ref 1000, .ref 5000, .ref 4500, .int (nI (5 * i)), xx_d, xx_d]) ⟨.inr rfl, .inr rfl, .inr rfl, .inr rfl, .inr rfl, .inl rfl, .inl rfl, trivial⟩ ?_
      refine xx_wid (k' := k9) (n' := n9) (by omega) (by omega) ?_
      exact kk z' τ' σ' _ hI'
    · exfalso
      rcases hE E rfl with rfl | rfl
      · revert q9; decide
      · revert q9; decide
  | inl w =>
    obtain rfl := hV w rfl
    refine sw_if_ne (tgt := 2323) O (xx_dt dd_L_law_22 28 rfl) (by decide) (fun q9 => absurd rfl q9) (fun _ => ?_)
    refine sw_aload_n O (xx_dt dd_L_law_22 29 rfl) rfl ?_
    refine sw_get (v := .long (Int32.toInt64 w)) O (xx_dt dd_L_law_22 30 rfl) cl_X8 fl_L_13 ((setM_out (by omega)).trans ((setC_out (by omega)).trans hO_4500)) (by decide) rfl ?_
    refine sw_iload O (xx_dt dd_L_law_22 31 rfl) rfl ?_
    refine sw_i2l O (xx_dt dd_L_law_22 32 rfl) ?_
    refine sw_lcmp O (xx_dt dd_L_law_22 33 rfl) ?_
    refine sw_if_eq (tgt := 2323) O (xx_dt dd_L_law_22 34 rfl) (by decide) (fun _ => ?_) (fun q9 => absurd (lw_cmp _) q9)
    refine sw_goto (tgt := 2654) O (xx_dt dd_L_law_22 37 rfl) (by decide) ?_
    refine sw_dum (ls2 := [.ref 11, .ref 1000, .ref 5000, .ref 4500, .int (nI (5 * i)), xx_d, xx_d]) ⟨.inr rfl, .inr rfl, .inr rfl, .inr rfl, .inr rfl, .inl rfl, .inl rfl, trivial⟩ ?_
    refine xx_wid (k' := k9) (n' := n9) (by omega) (by omega) ?_
    exact kk z' τ' σ' _ hI'
theorem lc_30 {Y : XY} {l : Launch} {h0 : XH} {xs : Nat → Int32} {len i : Nat} {n : Int64} {s : Option (Nat × (Nat → Value))} {z : Int64} {τ σ : XS9} {LI : XS9 → XS9 → Prop} (O : xx_O Y m_L_law l 40) (hl : l.stackTraces = false) (hB : okB h0) (h11 : h0 11 = some (100, len, fun j => .int (xs j))) (hi : 5 * i + 5 ≤ len) (hlen : len ≤ 2560) (hI : LI τ σ) (hif : IF_objects l LI) {k9 n9 : Nat} (kk : ∀ z τ σ n, LI τ σ → SW Y k9 n9 (hL h0 z τ σ n s) 2654 [.ref 11, .ref 1000, .ref 5000, .ref 4500, .int (nI (5 * i)), xx_d, xx_d] []) : SW Y (k9 + 700) (n9 + 10000) (hL h0 z τ σ n s) 2326 [.ref 11, .ref 1000, .ref 5000, .ref 4500, .int (nI (5 * i)), xx_d, xx_d] [] := by
  obtain ⟨kT, ekT⟩ : ∃ q, q = k9 + 700 := ⟨_, rfl⟩
  obtain ⟨nT, enT⟩ : ∃ q, q = n9 + 10000 := ⟨_, rfl⟩
  refine xx_wid (k' := kT) (n' := nT) (by omega) (by omega) ?_
  obtain ⟨o, σ', v, z', τ', hC, hE, hM, hI', hT, hV⟩ := hif z τ σ (xs (5 * i + 1)) (xs (5 * i + 2)) hI
  refine sw_aload_n O (xx_dt dd_L_law_22 38 rfl) rfl ?_
  refine sw_aload_n O (xx_dt dd_L_law_22 39 rfl) rfl ?_
  refine sw_iload O (xx_dt dd_L_law_22 40 rfl) rfl ?_
  refine sw_iconst (x := 1) O (xx_dt dd_L_law_22 41 rfl) (by decide) ?_
  refine sw_iadd O (xx_dt dd_L_law_22 42 rfl) ?_
  rw [show nI (5 * i) + 1 = nI (5 * i + 1) from nI_plus (5 * i) 1]
  refine sw_iaload (v := .int (xs (5 * i + 1))) O (xx_dt dd_L_law_22 43 rfl) ((hL_lo (by omega)).trans h11) (pk_in (5 * i + 1) _ (by omega)) (by rw [nI_clamp (by omega)]) ?_
  refine sw_aload_n O (xx_dt dd_L_law_22 44 rfl) rfl ?_
  refine sw_iload O (xx_dt dd_L_law_22 45 rfl) rfl ?_
  refine sw_iconst (x := 2) O (xx_dt dd_L_law_22 46 rfl) (by decide) ?_
  refine sw_iadd O (xx_dt dd_L_law_22 47 rfl) ?_
  rw [show nI (5 * i) + 2 = nI (5 * i + 2) from nI_plus (5 * i) 2]
  refine sw_iaload (v := .int (xs (5 * i + 2))) O (xx_dt dd_L_law_22 48 rfl) ((hL_lo (by omega)).trans h11) (pk_in (5 * i + 2) _ (by omega)) (by rw [nI_clamp (by omega)]) ?_
  refine sw_aload_n O (xx_dt dd_L_law_22 49 rfl) rfl ?_
  rw [hL_c]
  refine xx_wid (k' := (k9 + 699) + 1) (n' := (n9 + 9994) + 6) (by omega) (by omega) (sw_callSH (k := k9 + 699) (n := n9 + 9994) (k' := 1) (n' := 6) (as := [.ref 1000, .int (xs (5 * i + 1)), .int (xs (5 * i + 2)), .ref 4500]) (st := []) (st2 := [.int (lw_k [eIAE] o)]) O (lw_objects hl (hC _ ⟨h0, z, τ, n, s, hB, rfl⟩) (ly_1000 σ _) (F := fO n (sO s)) ((setC_out (by omega)).trans ((setM_out (by omega)).trans hO_4500)) hE) ch_L_objects mk_L_249 st_L_objects (xx_dt dd_L_law_22 50 rfl) (by decide) rfl rfl (Nat.le_of_ble_eq_true rfl) rfl ?_)
  rw [lw_g_e]
  refine sw_istore (ls2 := [.ref 11, .ref 1000, .ref 5000, .ref 4500, .int (nI (5 * i)), .int (lw_k [eIAE] o), xx_d]) O (xx_dt dd_L_law_22 51 rfl) (by decide) rfl ?_
  obtain ⟨kT, ekT⟩ : ∃ q, q = k9 + 699 := ⟨_, rfl⟩
  obtain ⟨nT, enT⟩ : ∃ q, q = n9 + 9994 := ⟨_, rfl⟩
  refine xx_wid (k' := kT) (n' := nT) (by omega) (by omega) ?_
  show SW Y _ _ (setM z τ (setC σ' (hO h0 (lw_n n o Int32.toInt64) s))) 2345 [.ref 11, .ref 1000, .ref 5000, .ref 4500, .int (nI (5 * i)), .int (lw_k [eIAE] o), xx_d] []
  refine sw_aload_n O (xx_dt dd_L_law_22 52 rfl) rfl ?_
  refine sw_aload_n O (xx_dt dd_L_law_22 53 rfl) rfl ?_
  refine sw_iload O (xx_dt dd_L_law_22 54 rfl) rfl ?_
  refine sw_iconst (x := 1) O (xx_dt dd_L_law_22 55 rfl) (by decide) ?_
  refine sw_iadd O (xx_dt dd_L_law_22 56 rfl) ?_
  rw [show nI (5 * i) + 1 = nI (5 * i + 1) from nI_plus (5 * i) 1]
  refine sw_iaload (v := .int (xs (5 * i + 1))) O (xx_dt dd_L_law_22 57 rfl) ((setM_out (by omega)).trans ((setC_out (by omega)).trans ((hO_o (by omega) (by omega) (by omega)).trans h11))) (pk_in (5 * i + 1) _ (by omega)) (by rw [nI_clamp (by omega)]) ?_
  refine sw_aload_n O (xx_dt dd_L_law_22 58 rfl) rfl ?_
  refine sw_iload O (xx_dt dd_L_law_22 59 rfl) rfl ?_
  refine sw_iconst (x := 2) O (xx_dt dd_L_law_23 0 rfl) (by decide) ?_
  refine sw_iadd O (xx_dt dd_L_law_23 1 rfl) ?_
  rw [show nI (5 * i) + 2 = nI (5 * i + 2) from nI_plus (5 * i) 2]
  refine sw_iaload (v := .int (xs (5 * i + 2))) O (xx_dt dd_L_law_23 2 rfl) ((setM_out (by omega)).trans ((setC_out (by omega)).trans ((hO_o (by omega) (by omega) (by omega)).trans h11))) (pk_in (5 * i + 2) _ (by omega)) (by rw [nI_clamp (by omega)]) ?_
  refine xx_wid (k' := (k9 + 692) + 7) (n' := (n9 + 9880) + 114) (by omega) (by omega) (sw_callVx (k := k9 + 692) (n := n9 + 9880) (k' := 7) (n' := 114) (as := [.int (xs (5 * i + 1)), .int (xs (5 * i + 2))]) (st := []) (st2 := [.int v]) O (hM _ ⟨h0, σ', _, s, hB, rfl⟩) ce_X14_objects ml_L_251 iv_X14_objects cl_X14 rfl lm_mod (xx_dt dd_L_law_23 3 rfl) (by decide) rfl rfl (Nat.le_of_ble_eq_true rfl) rfl ?_)
  refine sw_istore (ls2 := [.ref 11, .ref 1000, .ref 5000, .ref 4500, .int (nI (5 * i)), .int (lw_k [eIAE] o), .int v]) O (xx_dt dd_L_law_23 4 rfl) (by decide) rfl ?_
  refine sw_aload_n O (xx_dt dd_L_law_23 5 rfl) rfl ?_
  obtain ⟨kT, ekT⟩ : ∃ q, q = k9 + 692 := ⟨_, rfl⟩
  obtain ⟨nT, enT⟩ : ∃ q, q = n9 + 9880 := ⟨_, rfl⟩
  refine xx_wid (k' := kT) (n' := nT) (by omega) (by omega) ?_
  refine sw_callVx (as := []) (st := []) (st2 := [.int (f_Mthrown τ')]) O (ct_X14_thrown hl (okM.bs ⟨h0, σ', _, s, hB, rfl⟩)) ce_X14_thrown ml_L_147 iv_X14_thrown cl_X14 rfl lm_mod (xx_dt dd_L_law_23 6 rfl) (by decide) rfl rfl (Nat.le_of_ble_eq_true rfl) rfl ?_
  refine sw_iload O (xx_dt dd_L_law_23 7 rfl) rfl ?_
  refine sw_icmp_eq (tgt := 2374) O (xx_dt dd_L_law_23 8 rfl) (by decide) (fun _ => ?_) (fun q9 => absurd (show f_Mthrown τ' = _ from hT) q9)
  refine sw_iload O (xx_dt dd_L_law_23 11 rfl) rfl ?_
  cases o with
  | inr E =>
    refine sw_if_ne (tgt := 2392) O (xx_dt dd_L_law_23 12 rfl) (by decide) (fun _ => ?_) (fun q9 => ?_)
    · refine sw_goto (tgt := 2654) O (xx_dt dd_L_law_23 21 rfl) (by decide) ?_
      refine sw_dum (ls2 := [.ref 11, .ref 1000, .ref 5000, .ref 4500, .int (nI (5 * i)), xx_d, xx_d]) ⟨.inr rfl, .inr rfl, .inr rfl, .inr rfl, .inr rfl, .inl rfl, .inl rfl, trivial⟩ ?_
      refine xx_wid (k' := k9) (n' := n9) (by omega) (by omega) ?_
      exact kk z' τ' σ' _ hI'
    · exfalso
      rcases hE E rfl with rfl
      · revert q9; decide
  | inl w =>
    obtain rfl := hV w rfl
    refine sw_if_ne (tgt := 2392) O (xx_dt dd_L_law_23 12 rfl) (by decide) (fun q9 => absurd rfl q9) (fun _ => ?_)
    refine sw_aload_n O (xx_dt dd_L_law_23 13 rfl) rfl ?_
    refine sw_get (v := .long (Int32.toInt64 w)) O (xx_dt dd_L_law_23 14 rfl) cl_X8 fl_L_13 ((setM_out (by omega)).trans ((setC_out (by omega)).trans hO_4500)) (by decide) rfl ?_
    refine sw_iload O (xx_dt dd_L_law_23 15 rfl) rfl ?_
    refine sw_i2l O (xx_dt dd_L_law_23 16 rfl) ?_
    refine sw_lcmp O (xx_dt dd_L_law_23 17 rfl) ?_
    refine sw_if_eq (tgt := 2392) O (xx_dt dd_L_law_23 18 rfl) (by decide) (fun _ => ?_) (fun q9 => absurd (lw_cmp _) q9)
    refine sw_goto (tgt := 2654) O (xx_dt dd_L_law_23 21 rfl) (by decide) ?_
    refine sw_dum (ls2 := [.ref 11, .ref 1000, .ref 5000, .ref 4500, .int (nI (5 * i)), xx_d, xx_d]) ⟨.inr rfl, .inr rfl, .inr rfl, .inr rfl, .inr rfl, .inl rfl, .inl rfl, trivial⟩ ?_
    refine xx_wid (k' := k9) (n' := n9) (by omega) (by omega) ?_
    exact kk z' τ' σ' _ hI'
theorem lc_31 {Y : XY} {l : Launch} {h0 : XH} {xs : Nat → Int32} {len i : Nat} {n : Int64} {s : Option (Nat × (Nat → Value))} {z : Int64} {τ σ : XS9} {LI : XS9 → XS9 → Prop} (O : xx_O Y m_L_law l 40) (hl : l.stackTraces = false) (hB : okB h0) (h11 : h0 11 = some (100, len, fun j => .int (xs j))) (hi : 5 * i + 5 ≤ len) (hlen : len ≤ 2560) (hI : LI τ σ) (hif : IF_most l LI) {k9 n9 : Nat} (kk : ∀ z τ σ n, LI τ σ → SW Y k9 n9 (hL h0 z τ σ n s) 2654 [.ref 11, .ref 1000, .ref 5000, .ref 4500, .int (nI (5 * i)), xx_d, xx_d] []) : SW Y (k9 + 700) (n9 + 10000) (hL h0 z τ σ n s) 2395 [.ref 11, .ref 1000, .ref 5000, .ref 4500, .int (nI (5 * i)), xx_d, xx_d] [] := by
  obtain ⟨kT, ekT⟩ : ∃ q, q = k9 + 700 := ⟨_, rfl⟩
  obtain ⟨nT, enT⟩ : ∃ q, q = n9 + 10000 := ⟨_, rfl⟩
  refine xx_wid (k' := kT) (n' := nT) (by omega) (by omega) ?_
  obtain ⟨o, σ', v, z', τ', hC, hE, hM, hI', hT, hV⟩ := hif z τ σ (xs (5 * i + 1)) (xs (5 * i + 2)) hI
  refine sw_aload_n O (xx_dt dd_L_law_23 22 rfl) rfl ?_
  refine sw_aload_n O (xx_dt dd_L_law_23 23 rfl) rfl ?_
  refine sw_iload O (xx_dt dd_L_law_23 24 rfl) rfl ?_
  refine sw_iconst (x := 1) O (xx_dt dd_L_law_23 25 rfl) (by decide) ?_
  refine sw_iadd O (xx_dt dd_L_law_23 26 rfl) ?_
  rw [show nI (5 * i) + 1 = nI (5 * i + 1) from nI_plus (5 * i) 1]
  refine sw_iaload (v := .int (xs (5 * i + 1))) O (xx_dt dd_L_law_23 27 rfl) ((hL_lo (by omega)).trans h11) (pk_in (5 * i + 1) _ (by omega)) (by rw [nI_clamp (by omega)]) ?_
  refine sw_aload_n O (xx_dt dd_L_law_23 28 rfl) rfl ?_
  refine sw_iload O (xx_dt dd_L_law_23 29 rfl) rfl ?_
  refine sw_iconst (x := 2) O (xx_dt dd_L_law_23 30 rfl) (by decide) ?_
  refine sw_iadd O (xx_dt dd_L_law_23 31 rfl) ?_
  rw [show nI (5 * i) + 2 = nI (5 * i + 2) from nI_plus (5 * i) 2]
  refine sw_iaload (v := .int (xs (5 * i + 2))) O (xx_dt dd_L_law_23 32 rfl) ((hL_lo (by omega)).trans h11) (pk_in (5 * i + 2) _ (by omega)) (by rw [nI_clamp (by omega)]) ?_
  refine sw_aload_n O (xx_dt dd_L_law_23 33 rfl) rfl ?_
  rw [hL_c]
  refine xx_wid (k' := (k9 + 699) + 1) (n' := (n9 + 9994) + 6) (by omega) (by omega) (sw_callSH (k := k9 + 699) (n := n9 + 9994) (k' := 1) (n' := 6) (as := [.ref 1000, .int (xs (5 * i + 1)), .int (xs (5 * i + 2)), .ref 4500]) (st := []) (st2 := [.int (lw_k [eIOB] o)]) O (lw_most hl (hC _ ⟨h0, z, τ, n, s, hB, rfl⟩) (ly_1000 σ _) (F := fO n (sO s)) ((setC_out (by omega)).trans ((setM_out (by omega)).trans hO_4500)) hE) ch_L_most mk_L_252 st_L_most (xx_dt dd_L_law_23 34 rfl) (by decide) rfl rfl (Nat.le_of_ble_eq_true rfl) rfl ?_)
  rw [lw_g_e]
  refine sw_istore (ls2 := [.ref 11, .ref 1000, .ref 5000, .ref 4500, .int (nI (5 * i)), .int (lw_k [eIOB] o), xx_d]) O (xx_dt dd_L_law_23 35 rfl) (by decide) rfl ?_
  obtain ⟨kT, ekT⟩ : ∃ q, q = k9 + 699 := ⟨_, rfl⟩
  obtain ⟨nT, enT⟩ : ∃ q, q = n9 + 9994 := ⟨_, rfl⟩
  refine xx_wid (k' := kT) (n' := nT) (by omega) (by omega) ?_
  show SW Y _ _ (setM z τ (setC σ' (hO h0 (lw_n n o Int32.toInt64) s))) 2414 [.ref 11, .ref 1000, .ref 5000, .ref 4500, .int (nI (5 * i)), .int (lw_k [eIOB] o), xx_d] []
  refine sw_aload_n O (xx_dt dd_L_law_23 36 rfl) rfl ?_
  refine sw_aload_n O (xx_dt dd_L_law_23 37 rfl) rfl ?_
  refine sw_iload O (xx_dt dd_L_law_23 38 rfl) rfl ?_
  refine sw_iconst (x := 1) O (xx_dt dd_L_law_23 39 rfl) (by decide) ?_
  refine sw_iadd O (xx_dt dd_L_law_23 40 rfl) ?_
  rw [show nI (5 * i) + 1 = nI (5 * i + 1) from nI_plus (5 * i) 1]
  refine sw_iaload (v := .int (xs (5 * i + 1))) O (xx_dt dd_L_law_23 41 rfl) ((setM_out (by omega)).trans ((setC_out (by omega)).trans ((hO_o (by omega) (by omega) (by omega)).trans h11))) (pk_in (5 * i + 1) _ (by omega)) (by rw [nI_clamp (by omega)]) ?_
  refine sw_aload_n O (xx_dt dd_L_law_23 42 rfl) rfl ?_
  refine sw_iload O (xx_dt dd_L_law_23 43 rfl) rfl ?_
  refine sw_iconst (x := 2) O (xx_dt dd_L_law_23 44 rfl) (by decide) ?_
  refine sw_iadd O (xx_dt dd_L_law_23 45 rfl) ?_
  rw [show nI (5 * i) + 2 = nI (5 * i + 2) from nI_plus (5 * i) 2]
  refine sw_iaload (v := .int (xs (5 * i + 2))) O (xx_dt dd_L_law_23 46 rfl) ((setM_out (by omega)).trans ((setC_out (by omega)).trans ((hO_o (by omega) (by omega) (by omega)).trans h11))) (pk_in (5 * i + 2) _ (by omega)) (by rw [nI_clamp (by omega)]) ?_
  refine xx_wid (k' := (k9 + 699) + 0) (n' := (n9 + 9994) + 0) (by omega) (by omega) (sw_callVx (k := k9 + 699) (n := n9 + 9994) (k' := 0) (n' := 0) (as := [.int (xs (5 * i + 1)), .int (xs (5 * i + 2))]) (st := []) (st2 := [.int v]) O (hM _ ⟨h0, σ', _, s, hB, rfl⟩) ce_X14_most ml_L_254 iv_X14_most cl_X14 rfl lm_mod (xx_dt dd_L_law_23 47 rfl) (by decide) rfl rfl (Nat.le_of_ble_eq_true rfl) rfl ?_)
  refine sw_istore (ls2 := [.ref 11, .ref 1000, .ref 5000, .ref 4500, .int (nI (5 * i)), .int (lw_k [eIOB] o), .int v]) O (xx_dt dd_L_law_23 48 rfl) (by decide) rfl ?_
  refine sw_aload_n O (xx_dt dd_L_law_23 49 rfl) rfl ?_
  obtain ⟨kT, ekT⟩ : ∃ q, q = k9 + 699 := ⟨_, rfl⟩
  obtain ⟨nT, enT⟩ : ∃ q, q = n9 + 9994 := ⟨_, rfl⟩
  refine xx_wid (k' := kT) (n' := nT) (by omega) (by omega) ?_
  refine sw_callVx (as := []) (st := []) (st2 := [.int (f_Mthrown τ')]) O (ct_X14_thrown hl (okM.bs ⟨h0, σ', _, s, hB, rfl⟩)) ce_X14_thrown ml_L_147 iv_X14_thrown cl_X14 rfl lm_mod (xx_dt dd_L_law_23 50 rfl) (by decide) rfl rfl (Nat.le_of_ble_eq_true rfl) rfl ?_
  refine sw_iload O (xx_dt dd_L_law_23 51 rfl) rfl ?_
  refine sw_icmp_eq (tgt := 2443) O (xx_dt dd_L_law_23 52 rfl) (by decide) (fun _ => ?_) (fun q9 => absurd (show f_Mthrown τ' = _ from hT) q9)
  refine sw_iload O (xx_dt dd_L_law_23 55 rfl) rfl ?_
  cases o with
  | inr E =>
    refine sw_if_ne (tgt := 2461) O (xx_dt dd_L_law_23 56 rfl) (by decide) (fun _ => ?_) (fun q9 => ?_)
    · refine sw_goto (tgt := 2654) O (xx_dt dd_L_law_24 5 rfl) (by decide) ?_
      refine sw_dum (ls2 := [.ref 11, .ref 1000, .ref 5000, .ref 4500, .int (nI (5 * i)), xx_d, xx_d]) ⟨.inr rfl, .inr rfl, .inr rfl, .inr rfl, .inr rfl, .inl rfl, .inl rfl, trivial⟩ ?_
      refine xx_wid (k' := k9) (n' := n9) (by omega) (by omega) ?_
      exact kk z' τ' σ' _ hI'
    · exfalso
      rcases hE E rfl with rfl
      · revert q9; decide
  | inl w =>
    obtain rfl := hV w rfl
    refine sw_if_ne (tgt := 2461) O (xx_dt dd_L_law_23 56 rfl) (by decide) (fun q9 => absurd rfl q9) (fun _ => ?_)
    refine sw_aload_n O (xx_dt dd_L_law_23 57 rfl) rfl ?_
    refine sw_get (v := .long (Int32.toInt64 w)) O (xx_dt dd_L_law_23 58 rfl) cl_X8 fl_L_13 ((setM_out (by omega)).trans ((setC_out (by omega)).trans hO_4500)) (by decide) rfl ?_
    refine sw_iload O (xx_dt dd_L_law_23 59 rfl) rfl ?_
    refine sw_i2l O (xx_dt dd_L_law_24 0 rfl) ?_
    refine sw_lcmp O (xx_dt dd_L_law_24 1 rfl) ?_
    refine sw_if_eq (tgt := 2461) O (xx_dt dd_L_law_24 2 rfl) (by decide) (fun _ => ?_) (fun q9 => absurd (lw_cmp _) q9)
    refine sw_goto (tgt := 2654) O (xx_dt dd_L_law_24 5 rfl) (by decide) ?_
    refine sw_dum (ls2 := [.ref 11, .ref 1000, .ref 5000, .ref 4500, .int (nI (5 * i)), xx_d, xx_d]) ⟨.inr rfl, .inr rfl, .inr rfl, .inr rfl, .inr rfl, .inl rfl, .inl rfl, trivial⟩ ?_
    refine xx_wid (k' := k9) (n' := n9) (by omega) (by omega) ?_
    exact kk z' τ' σ' _ hI'
theorem lc_32 {Y : XY} {l : Launch} {h0 : XH} {xs : Nat → Int32} {len i : Nat} {n : Int64} {s : Option (Nat × (Nat → Value))} {z : Int64} {τ σ : XS9} {LI : XS9 → XS9 → Prop} (O : xx_O Y m_L_law l 40) (hl : l.stackTraces = false) (hB : okB h0) (h11 : h0 11 = some (100, len, fun j => .int (xs j))) (hi : 5 * i + 5 ≤ len) (hlen : len ≤ 2560) (hI : LI τ σ) (hif : IF_contradicts l LI) {k9 n9 : Nat} (kk : ∀ z τ σ n, LI τ σ → SW Y k9 n9 (hL h0 z τ σ n s) 2654 [.ref 11, .ref 1000, .ref 5000, .ref 4500, .int (nI (5 * i)), xx_d, xx_d] []) : SW Y (k9 + 700) (n9 + 10000) (hL h0 z τ σ n s) 2464 [.ref 11, .ref 1000, .ref 5000, .ref 4500, .int (nI (5 * i)), xx_d, xx_d] [] := by
  obtain ⟨kT, ekT⟩ : ∃ q, q = k9 + 700 := ⟨_, rfl⟩
  obtain ⟨nT, enT⟩ : ∃ q, q = n9 + 10000 := ⟨_, rfl⟩
  refine xx_wid (k' := kT) (n' := nT) (by omega) (by omega) ?_
  obtain ⟨o, σ', v, z', τ', hC, hE, hM, hI', hT, hV⟩ := hif z τ σ (xs (5 * i + 1)) hI
  refine sw_aload_n O (xx_dt dd_L_law_24 6 rfl) rfl ?_
  refine sw_aload_n O (xx_dt dd_L_law_24 7 rfl) rfl ?_
  refine sw_iload O (xx_dt dd_L_law_24 8 rfl) rfl ?_
  refine sw_iconst (x := 1) O (xx_dt dd_L_law_24 9 rfl) (by decide) ?_
  refine sw_iadd O (xx_dt dd_L_law_24 10 rfl) ?_
  rw [show nI (5 * i) + 1 = nI (5 * i + 1) from nI_plus (5 * i) 1]
  refine sw_iaload (v := .int (xs (5 * i + 1))) O (xx_dt dd_L_law_24 11 rfl) ((hL_lo (by omega)).trans h11) (pk_in (5 * i + 1) _ (by omega)) (by rw [nI_clamp (by omega)]) ?_
  refine sw_aload_n O (xx_dt dd_L_law_24 12 rfl) rfl ?_
  rw [hL_c]
  refine xx_wid (k' := (k9 + 699) + 1) (n' := (n9 + 9994) + 6) (by omega) (by omega) (sw_callSH (k := k9 + 699) (n := n9 + 9994) (k' := 1) (n' := 6) (as := [.ref 1000, .int (xs (5 * i + 1)), .ref 4500]) (st := []) (st2 := [.int (lw_k [eIOB] o)]) O (lw_contradicts hl (hC _ ⟨h0, z, τ, n, s, hB, rfl⟩) (ly_1000 σ _) (F := fO n (sO s)) ((setC_out (by omega)).trans ((setM_out (by omega)).trans hO_4500)) hE) ch_L_contradicts mk_L_255 st_L_contradicts (xx_dt dd_L_law_24 13 rfl) (by decide) rfl rfl (Nat.le_of_ble_eq_true rfl) rfl ?_)
  rw [lw_g_e]
  refine sw_istore (ls2 := [.ref 11, .ref 1000, .ref 5000, .ref 4500, .int (nI (5 * i)), .int (lw_k [eIOB] o), xx_d]) O (xx_dt dd_L_law_24 14 rfl) (by decide) rfl ?_
  obtain ⟨kT, ekT⟩ : ∃ q, q = k9 + 699 := ⟨_, rfl⟩
  obtain ⟨nT, enT⟩ : ∃ q, q = n9 + 9994 := ⟨_, rfl⟩
  refine xx_wid (k' := kT) (n' := nT) (by omega) (by omega) ?_
  show SW Y _ _ (setM z τ (setC σ' (hO h0 (lw_n n o Int32.toInt64) s))) 2477 [.ref 11, .ref 1000, .ref 5000, .ref 4500, .int (nI (5 * i)), .int (lw_k [eIOB] o), xx_d] []
  refine sw_aload_n O (xx_dt dd_L_law_24 15 rfl) rfl ?_
  refine sw_aload_n O (xx_dt dd_L_law_24 16 rfl) rfl ?_
  refine sw_iload O (xx_dt dd_L_law_24 17 rfl) rfl ?_
  refine sw_iconst (x := 1) O (xx_dt dd_L_law_24 18 rfl) (by decide) ?_
  refine sw_iadd O (xx_dt dd_L_law_24 19 rfl) ?_
  rw [show nI (5 * i) + 1 = nI (5 * i + 1) from nI_plus (5 * i) 1]
  refine sw_iaload (v := .int (xs (5 * i + 1))) O (xx_dt dd_L_law_24 20 rfl) ((setM_out (by omega)).trans ((setC_out (by omega)).trans ((hO_o (by omega) (by omega) (by omega)).trans h11))) (pk_in (5 * i + 1) _ (by omega)) (by rw [nI_clamp (by omega)]) ?_
  refine xx_wid (k' := (k9 + 699) + 0) (n' := (n9 + 9994) + 0) (by omega) (by omega) (sw_callVx (k := k9 + 699) (n := n9 + 9994) (k' := 0) (n' := 0) (as := [.int (xs (5 * i + 1))]) (st := []) (st2 := [.int v]) O (hM _ ⟨h0, σ', _, s, hB, rfl⟩) ce_X14_contradicts ml_L_257 iv_X14_contradicts cl_X14 rfl lm_mod (xx_dt dd_L_law_24 21 rfl) (by decide) rfl rfl (Nat.le_of_ble_eq_true rfl) rfl ?_)
  refine sw_istore (ls2 := [.ref 11, .ref 1000, .ref 5000, .ref 4500, .int (nI (5 * i)), .int (lw_k [eIOB] o), .int v]) O (xx_dt dd_L_law_24 22 rfl) (by decide) rfl ?_
  refine sw_aload_n O (xx_dt dd_L_law_24 23 rfl) rfl ?_
  obtain ⟨kT, ekT⟩ : ∃ q, q = k9 + 699 := ⟨_, rfl⟩
  obtain ⟨nT, enT⟩ : ∃ q, q = n9 + 9994 := ⟨_, rfl⟩
  refine xx_wid (k' := kT) (n' := nT) (by omega) (by omega) ?_
  refine sw_callVx (as := []) (st := []) (st2 := [.int (f_Mthrown τ')]) O (ct_X14_thrown hl (okM.bs ⟨h0, σ', _, s, hB, rfl⟩)) ce_X14_thrown ml_L_147 iv_X14_thrown cl_X14 rfl lm_mod (xx_dt dd_L_law_24 24 rfl) (by decide) rfl rfl (Nat.le_of_ble_eq_true rfl) rfl ?_
  refine sw_iload O (xx_dt dd_L_law_24 25 rfl) rfl ?_
  refine sw_icmp_eq (tgt := 2500) O (xx_dt dd_L_law_24 26 rfl) (by decide) (fun _ => ?_) (fun q9 => absurd (show f_Mthrown τ' = _ from hT) q9)
  refine sw_iload O (xx_dt dd_L_law_24 29 rfl) rfl ?_
  cases o with
  | inr E =>
    refine sw_if_ne (tgt := 2518) O (xx_dt dd_L_law_24 30 rfl) (by decide) (fun _ => ?_) (fun q9 => ?_)
    · refine sw_goto (tgt := 2654) O (xx_dt dd_L_law_24 39 rfl) (by decide) ?_
      refine sw_dum (ls2 := [.ref 11, .ref 1000, .ref 5000, .ref 4500, .int (nI (5 * i)), xx_d, xx_d]) ⟨.inr rfl, .inr rfl, .inr rfl, .inr rfl, .inr rfl, .inl rfl, .inl rfl, trivial⟩ ?_
      refine xx_wid (k' := k9) (n' := n9) (by omega) (by omega) ?_
      exact kk z' τ' σ' _ hI'
    · exfalso
      rcases hE E rfl with rfl
      · revert q9; decide
  | inl w =>
    obtain rfl := hV w rfl
    refine sw_if_ne (tgt := 2518) O (xx_dt dd_L_law_24 30 rfl) (by decide) (fun q9 => absurd rfl q9) (fun _ => ?_)
    refine sw_aload_n O (xx_dt dd_L_law_24 31 rfl) rfl ?_
    refine sw_get (v := .long (Int32.toInt64 w)) O (xx_dt dd_L_law_24 32 rfl) cl_X8 fl_L_13 ((setM_out (by omega)).trans ((setC_out (by omega)).trans hO_4500)) (by decide) rfl ?_
    refine sw_iload O (xx_dt dd_L_law_24 33 rfl) rfl ?_
    refine sw_i2l O (xx_dt dd_L_law_24 34 rfl) ?_
    refine sw_lcmp O (xx_dt dd_L_law_24 35 rfl) ?_
    refine sw_if_eq (tgt := 2518) O (xx_dt dd_L_law_24 36 rfl) (by decide) (fun _ => ?_) (fun q9 => absurd (lw_cmp _) q9)
    refine sw_goto (tgt := 2654) O (xx_dt dd_L_law_24 39 rfl) (by decide) ?_
    refine sw_dum (ls2 := [.ref 11, .ref 1000, .ref 5000, .ref 4500, .int (nI (5 * i)), xx_d, xx_d]) ⟨.inr rfl, .inr rfl, .inr rfl, .inr rfl, .inr rfl, .inl rfl, .inl rfl, trivial⟩ ?_
    refine xx_wid (k' := k9) (n' := n9) (by omega) (by omega) ?_
    exact kk z' τ' σ' _ hI'
theorem lc_33 {Y : XY} {l : Launch} {h0 : XH} {xs : Nat → Int32} {len i : Nat} {n : Int64} {s : Option (Nat × (Nat → Value))} {z : Int64} {τ σ : XS9} {LI : XS9 → XS9 → Prop} (O : xx_O Y m_L_law l 40) (hl : l.stackTraces = false) (hB : okB h0) (h11 : h0 11 = some (100, len, fun j => .int (xs j))) (hi : 5 * i + 5 ≤ len) (hlen : len ≤ 2560) (hI : LI τ σ) (hif : IF_anew l LI) {k9 n9 : Nat} (kk : ∀ z τ σ n, LI τ σ → SW Y k9 n9 (hL h0 z τ σ n s) 2654 [.ref 11, .ref 1000, .ref 5000, .ref 4500, .int (nI (5 * i)), xx_d, xx_d] []) : SW Y (k9 + 700) (n9 + 10000) (hL h0 z τ σ n s) 2521 [.ref 11, .ref 1000, .ref 5000, .ref 4500, .int (nI (5 * i)), xx_d, xx_d] [] := by
  obtain ⟨kT, ekT⟩ : ∃ q, q = k9 + 700 := ⟨_, rfl⟩
  obtain ⟨nT, enT⟩ : ∃ q, q = n9 + 10000 := ⟨_, rfl⟩
  refine xx_wid (k' := kT) (n' := nT) (by omega) (by omega) ?_
  obtain ⟨o, σ', v, z', τ', hC, hE, hM, hI', hT, hV⟩ := hif z τ σ (xs (5 * i + 1)) (xs (5 * i + 2)) (xs (5 * i + 3)) (xs (5 * i + 4)) hI
  refine sw_aload_n O (xx_dt dd_L_law_24 40 rfl) rfl ?_
  refine sw_aload_n O (xx_dt dd_L_law_24 41 rfl) rfl ?_
  refine sw_iload O (xx_dt dd_L_law_24 42 rfl) rfl ?_
  refine sw_iconst (x := 1) O (xx_dt dd_L_law_24 43 rfl) (by decide) ?_
  refine sw_iadd O (xx_dt dd_L_law_24 44 rfl) ?_
  rw [show nI (5 * i) + 1 = nI (5 * i + 1) from nI_plus (5 * i) 1]
  refine sw_iaload (v := .int (xs (5 * i + 1))) O (xx_dt dd_L_law_24 45 rfl) ((hL_lo (by omega)).trans h11) (pk_in (5 * i + 1) _ (by omega)) (by rw [nI_clamp (by omega)]) ?_
  refine sw_aload_n O (xx_dt dd_L_law_24 46 rfl) rfl ?_
  refine sw_iload O (xx_dt dd_L_law_24 47 rfl) rfl ?_
  refine sw_iconst (x := 2) O (xx_dt dd_L_law_24 48 rfl) (by decide) ?_
  refine sw_iadd O (xx_dt dd_L_law_24 49 rfl) ?_
  rw [show nI (5 * i) + 2 = nI (5 * i + 2) from nI_plus (5 * i) 2]
  refine sw_iaload (v := .int (xs (5 * i + 2))) O (xx_dt dd_L_law_24 50 rfl) ((hL_lo (by omega)).trans h11) (pk_in (5 * i + 2) _ (by omega)) (by rw [nI_clamp (by omega)]) ?_
  refine sw_aload_n O (xx_dt dd_L_law_24 51 rfl) rfl ?_
  refine sw_iload O (xx_dt dd_L_law_24 52 rfl) rfl ?_
  refine sw_iconst (x := 3) O (xx_dt dd_L_law_24 53 rfl) (by decide) ?_
  refine sw_iadd O (xx_dt dd_L_law_24 54 rfl) ?_
  rw [show nI (5 * i) + 3 = nI (5 * i + 3) from nI_plus (5 * i) 3]
  refine sw_iaload (v := .int (xs (5 * i + 3))) O (xx_dt dd_L_law_24 55 rfl) ((hL_lo (by omega)).trans h11) (pk_in (5 * i + 3) _ (by omega)) (by rw [nI_clamp (by omega)]) ?_
  refine sw_aload_n O (xx_dt dd_L_law_24 56 rfl) rfl ?_
  refine sw_iload O (xx_dt dd_L_law_24 57 rfl) rfl ?_
  refine sw_iconst (x := 4) O (xx_dt dd_L_law_24 58 rfl) (by decide) ?_
  refine sw_iadd O (xx_dt dd_L_law_24 59 rfl) ?_
  rw [show nI (5 * i) + 4 = nI (5 * i + 4) from nI_plus (5 * i) 4]
  refine sw_iaload (v := .int (xs (5 * i + 4))) O (xx_dt dd_L_law_25 0 rfl) ((hL_lo (by omega)).trans h11) (pk_in (5 * i + 4) _ (by omega)) (by rw [nI_clamp (by omega)]) ?_
  refine sw_aload_n O (xx_dt dd_L_law_25 1 rfl) rfl ?_
  rw [hL_c]
  refine xx_wid (k' := (k9 + 699) + 1) (n' := (n9 + 9994) + 6) (by omega) (by omega) (sw_callSH (k := k9 + 699) (n := n9 + 9994) (k' := 1) (n' := 6) (as := [.ref 1000, .int (xs (5 * i + 1)), .int (xs (5 * i + 2)), .int (xs (5 * i + 3)), .int (xs (5 * i + 4)), .ref 4500]) (st := []) (st2 := [.int (lw_k [eIOB, eIAE] o)]) O (lw_anew hl (hC _ ⟨h0, z, τ, n, s, hB, rfl⟩) (ly_1000 σ _) (F := fO n (sO s)) ((setC_out (by omega)).trans ((setM_out (by omega)).trans hO_4500)) hE) ch_L_anew mk_L_258 st_L_anew (xx_dt dd_L_law_25 2 rfl) (by decide) rfl rfl (Nat.le_of_ble_eq_true rfl) rfl ?_)
  rw [lw_g_e]
  refine sw_istore (ls2 := [.ref 11, .ref 1000, .ref 5000, .ref 4500, .int (nI (5 * i)), .int (lw_k [eIOB, eIAE] o), xx_d]) O (xx_dt dd_L_law_25 3 rfl) (by decide) rfl ?_
  obtain ⟨kT, ekT⟩ : ∃ q, q = k9 + 699 := ⟨_, rfl⟩
  obtain ⟨nT, enT⟩ : ∃ q, q = n9 + 9994 := ⟨_, rfl⟩
  refine xx_wid (k' := kT) (n' := nT) (by omega) (by omega) ?_
  show SW Y _ _ (setM z τ (setC σ' (hO h0 (lw_n n o Int32.toInt64) s))) 2552 [.ref 11, .ref 1000, .ref 5000, .ref 4500, .int (nI (5 * i)), .int (lw_k [eIOB, eIAE] o), xx_d] []
  refine sw_aload_n O (xx_dt dd_L_law_25 4 rfl) rfl ?_
  refine sw_aload_n O (xx_dt dd_L_law_25 5 rfl) rfl ?_
  refine sw_iload O (xx_dt dd_L_law_25 6 rfl) rfl ?_
  refine sw_iconst (x := 1) O (xx_dt dd_L_law_25 7 rfl) (by decide) ?_
  refine sw_iadd O (xx_dt dd_L_law_25 8 rfl) ?_
  rw [show nI (5 * i) + 1 = nI (5 * i + 1) from nI_plus (5 * i) 1]
  refine sw_iaload (v := .int (xs (5 * i + 1))) O (xx_dt dd_L_law_25 9 rfl) ((setM_out (by omega)).trans ((setC_out (by omega)).trans ((hO_o (by omega) (by omega) (by omega)).trans h11))) (pk_in (5 * i + 1) _ (by omega)) (by rw [nI_clamp (by omega)]) ?_
  refine sw_aload_n O (xx_dt dd_L_law_25 10 rfl) rfl ?_
  refine sw_iload O (xx_dt dd_L_law_25 11 rfl) rfl ?_
  refine sw_iconst (x := 2) O (xx_dt dd_L_law_25 12 rfl) (by decide) ?_
  refine sw_iadd O (xx_dt dd_L_law_25 13 rfl) ?_
  rw [show nI (5 * i) + 2 = nI (5 * i + 2) from nI_plus (5 * i) 2]
  refine sw_iaload (v := .int (xs (5 * i + 2))) O (xx_dt dd_L_law_25 14 rfl) ((setM_out (by omega)).trans ((setC_out (by omega)).trans ((hO_o (by omega) (by omega) (by omega)).trans h11))) (pk_in (5 * i + 2) _ (by omega)) (by rw [nI_clamp (by omega)]) ?_
  refine sw_aload_n O (xx_dt dd_L_law_25 15 rfl) rfl ?_
  refine sw_iload O (xx_dt dd_L_law_25 16 rfl) rfl ?_
  refine sw_iconst (x := 3) O (xx_dt dd_L_law_25 17 rfl) (by decide) ?_
  refine sw_iadd O (xx_dt dd_L_law_25 18 rfl) ?_
  rw [show nI (5 * i) + 3 = nI (5 * i + 3) from nI_plus (5 * i) 3]
  refine sw_iaload (v := .int (xs (5 * i + 3))) O (xx_dt dd_L_law_25 19 rfl) ((setM_out (by omega)).trans ((setC_out (by omega)).trans ((hO_o (by omega) (by omega) (by omega)).trans h11))) (pk_in (5 * i + 3) _ (by omega)) (by rw [nI_clamp (by omega)]) ?_
  refine sw_aload_n O (xx_dt dd_L_law_25 20 rfl) rfl ?_
  refine sw_iload O (xx_dt dd_L_law_25 21 rfl) rfl ?_
  refine sw_iconst (x := 4) O (xx_dt dd_L_law_25 22 rfl) (by decide) ?_
  refine sw_iadd O (xx_dt dd_L_law_25 23 rfl) ?_
  rw [show nI (5 * i) + 4 = nI (5 * i + 4) from nI_plus (5 * i) 4]
  refine sw_iaload (v := .int (xs (5 * i + 4))) O (xx_dt dd_L_law_25 24 rfl) ((setM_out (by omega)).trans ((setC_out (by omega)).trans ((hO_o (by omega) (by omega) (by omega)).trans h11))) (pk_in (5 * i + 4) _ (by omega)) (by rw [nI_clamp (by omega)]) ?_
  refine xx_wid (k' := (k9 + 209) + 490) (n' := (n9 + 1356) + 8638) (by omega) (by omega) (sw_callVx (k := k9 + 209) (n := n9 + 1356) (k' := 490) (n' := 8638) (as := [.int (xs (5 * i + 1)), .int (xs (5 * i + 2)), .int (xs (5 * i + 3)), .int (xs (5 * i + 4))]) (st := []) (st2 := [.int v]) O (hM _ ⟨h0, σ', _, s, hB, rfl⟩) ce_X14_anew ml_L_260 iv_X14_anew cl_X14 rfl lm_mod (xx_dt dd_L_law_25 25 rfl) (by decide) rfl rfl (Nat.le_of_ble_eq_true rfl) rfl ?_)
  refine sw_istore (ls2 := [.ref 11, .ref 1000, .ref 5000, .ref 4500, .int (nI (5 * i)), .int (lw_k [eIOB, eIAE] o), .int v]) O (xx_dt dd_L_law_25 26 rfl) (by decide) rfl ?_
  refine sw_aload_n O (xx_dt dd_L_law_25 27 rfl) rfl ?_
  obtain ⟨kT, ekT⟩ : ∃ q, q = k9 + 209 := ⟨_, rfl⟩
  obtain ⟨nT, enT⟩ : ∃ q, q = n9 + 1356 := ⟨_, rfl⟩
  refine xx_wid (k' := kT) (n' := nT) (by omega) (by omega) ?_
  refine sw_callVx (as := []) (st := []) (st2 := [.int (f_Mthrown τ')]) O (ct_X14_thrown hl (okM.bs ⟨h0, σ', _, s, hB, rfl⟩)) ce_X14_thrown ml_L_147 iv_X14_thrown cl_X14 rfl lm_mod (xx_dt dd_L_law_25 28 rfl) (by decide) rfl rfl (Nat.le_of_ble_eq_true rfl) rfl ?_
  refine sw_iload O (xx_dt dd_L_law_25 29 rfl) rfl ?_
  refine sw_icmp_eq (tgt := 2593) O (xx_dt dd_L_law_25 30 rfl) (by decide) (fun _ => ?_) (fun q9 => absurd (show f_Mthrown τ' = _ from hT) q9)
  refine sw_iload O (xx_dt dd_L_law_25 33 rfl) rfl ?_
  cases o with
  | inr E =>
    refine sw_if_ne (tgt := 2611) O (xx_dt dd_L_law_25 34 rfl) (by decide) (fun _ => ?_) (fun q9 => ?_)
    · refine sw_goto (tgt := 2654) O (xx_dt dd_L_law_25 43 rfl) (by decide) ?_
      refine sw_dum (ls2 := [.ref 11, .ref 1000, .ref 5000, .ref 4500, .int (nI (5 * i)), xx_d, xx_d]) ⟨.inr rfl, .inr rfl, .inr rfl, .inr rfl, .inr rfl, .inl rfl, .inl rfl, trivial⟩ ?_
      refine xx_wid (k' := k9) (n' := n9) (by omega) (by omega) ?_
      exact kk z' τ' σ' _ hI'
    · exfalso
      rcases hE E rfl with rfl | rfl
      · revert q9; decide
      · revert q9; decide
  | inl w =>
    obtain rfl := hV w rfl
    refine sw_if_ne (tgt := 2611) O (xx_dt dd_L_law_25 34 rfl) (by decide) (fun q9 => absurd rfl q9) (fun _ => ?_)
    refine sw_aload_n O (xx_dt dd_L_law_25 35 rfl) rfl ?_
    refine sw_get (v := .long (Int32.toInt64 w)) O (xx_dt dd_L_law_25 36 rfl) cl_X8 fl_L_13 ((setM_out (by omega)).trans ((setC_out (by omega)).trans hO_4500)) (by decide) rfl ?_
    refine sw_iload O (xx_dt dd_L_law_25 37 rfl) rfl ?_
    refine sw_i2l O (xx_dt dd_L_law_25 38 rfl) ?_
    refine sw_lcmp O (xx_dt dd_L_law_25 39 rfl) ?_
    refine sw_if_eq (tgt := 2611) O (xx_dt dd_L_law_25 40 rfl) (by decide) (fun _ => ?_) (fun q9 => absurd (lw_cmp _) q9)
    refine sw_goto (tgt := 2654) O (xx_dt dd_L_law_25 43 rfl) (by decide) ?_
    refine sw_dum (ls2 := [.ref 11, .ref 1000, .ref 5000, .ref 4500, .int (nI (5 * i)), xx_d, xx_d]) ⟨.inr rfl, .inr rfl, .inr rfl, .inr rfl, .inr rfl, .inl rfl, .inl rfl, trivial⟩ ?_
    refine xx_wid (k' := k9) (n' := n9) (by omega) (by omega) ?_
    exact kk z' τ' σ' _ hI'

