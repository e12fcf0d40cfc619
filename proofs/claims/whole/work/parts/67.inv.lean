/-! THE PURE PART: what holds between calls -/
abbrev TR : Type := Nat × (Nat → Int32) × (Nat → Int32)
abbrev TD : Type := TG × Bool × TA × TR × TR × TR
def XRw (b n0 : Nat) (r : TR) (μ : Mem) : Prop := μ.1 b 0 = nI n0 ∧ μ.1 b 1 = nI r.1 ∧ ∀ j, j < r.1 → μ.1 (b + 1) j = r.2.1 j ∧ μ.1 (b + 2) j = r.2.2 j
def MRw (fl a : Nat) (r : TR) (μ : Mem) : Prop := μ.1 122 fl = nI r.1 ∧ ∀ j, j < r.1 → μ.1 a j = r.2.1 j ∧ μ.1 (a + 1) j = r.2.2 j
def XPl (k : Nat) (D : TD) (μ : Mem) : Prop := μ.1 k 0 = b01 D.2.1 ∧ (D.2.1 = true → XR k (g_S D.1) (g_T D.1) (g_cost D.1) D.2.2.1 μ) ∧ ∀ c, c < 36 → μ.1 (k + 3) c = 0 ∨ μ.1 (k + 3) c = 1
def XD (b : Nat) (D : TD) (μ : Mem) : Prop := XG (b + 1) D.1 μ ∧ XPl (b + 8) D μ ∧ XRw (b + 28) 5 D.2.2.2.1 μ ∧ XRw (b + 31) 8 D.2.2.2.2.1 μ ∧ XRw (b + 34) 8 D.2.2.2.2.2 μ
def MPl (D : TD) (μ : Mem) : Prop := μ.1 122 6 = b01 D.2.1 ∧ (D.2.1 = true → MR (g_S D.1) (g_T D.1) (g_cost D.1) D.2.2.1 μ)
def MD (D : TD) (μ : Mem) : Prop := MG D.1 μ ∧ MPl D μ ∧ MRw 20 131 D.2.2.2.1 μ ∧ MRw 21 133 D.2.2.2.2.1 μ ∧ MRw 22 135 D.2.2.2.2.2 μ
def ord_ok (G : TG) (w n : Int32) : Prop := ((w = 0 ∨ w = 3) ∧ ∃ k, k < G.1 ∧ n = nI k) ∨ (w = 1 ∧ ∃ k, k < G.2.1 ∧ n = nI k) ∨ (w = 2 ∧ ∃ i j, i < G.1 ∧ j < G.2.1 ∧ n = nI (10 * i + j))
def row_ok (r : TR) : Prop := ∀ j, j < r.1 → ∃ c, c < 36 ∧ r.2.1 j = nI c
def D_ok (D : TD) : Prop := g_ok D.1 ∧ (∀ i, i < 10 → (D.1.2.2.1 i).toInt ≤ 99) ∧ (D.2.1 = true → 0 < D.1.1 ∧ 0 < D.1.2.1 ∧ t_ok (g_S D.1) (g_T D.1) (g_cost D.1) D.2.2.1) ∧ D.2.2.2.1.1 ≤ 5 ∧ row_ok D.2.2.2.1 ∧ D.2.2.2.2.1.1 ≤ 8 ∧ (∀ j, j < D.2.2.2.2.1.1 → ord_ok D.1 (D.2.2.2.2.1.2.1 j) (D.2.2.2.2.1.2.2 j)) ∧ D.2.2.2.2.2.1 ≤ 8 ∧ row_ok D.2.2.2.2.2
/-- the state that the image of the model holds -/
def unp (μ : Mem) : Mem := (fun c j => if c = 122 then (if j ≤ 1 then μ.1 138 j else if 6 ≤ j ∧ j ≤ 9 then μ.1 138 (j - 4) else if 20 ≤ j ∧ j ≤ 22 then μ.1 138 (j - 14) else 0) else if c = 123 then μ.1 138 (9 + j) else if c = 124 then μ.1 138 (19 + j) else if c = 125 then μ.1 138 (29 + j) else if c = 126 then μ.1 138 (54 + j)
  else if c = 127 then μ.1 138 (79 + j) else if c = 128 then μ.1 138 (115 + j) else if c = 129 then μ.1 138 (151 + j) else if c = 130 then μ.1 138 (187 + j) else if c = 131 then μ.1 138 (487 + j) else if c = 132 then μ.1 138 (492 + j) else if c = 133 then μ.1 138 (497 + j) else if c = 134 then μ.1 138 (505 + j) else if c = 135 then μ.1 138 (513 + j) else if c = 136 then μ.1 138 (521 + j) else 0, μ.2)
def KI (μ : Mem) : Prop := (μ.1 79 0 = nI 5 ∧ μ.1 82 0 = nI 8 ∧ μ.1 85 0 = nI 8) ∧ ∃ kp : Bool, μ.1 0 2 = b01 kp ∧ μ.1 122 26 = b01 kp ∧ (kp = true → ∃ D, D_ok D ∧ XD 51 D μ ∧ MD D (unp μ))
def TX (μ : Mem) : Prop := ∃ n, n ≤ 100 ∧ μ.1 88 0 = nI n ∧ μ.1 122 24 = nI n ∧ ∀ j, j < n → μ.1 89 j = μ.1 137 j ∧ 0 ≤ (μ.1 89 j).toInt ∧ (μ.1 89 j).toInt ≤ 127
def TP (μ : Mem) : Prop := ∀ t, t < 6 → μ.1 (2 + 2 * t) 0 = μ.1 157 t ∧ μ.1 (2 + 2 * t) 1 = μ.1 158 t ∧ -1 ≤ (μ.1 157 t).toInt ∧ (μ.1 157 t).toInt ≤ 4 ∧ (∃ n, n ≤ 60 ∧ μ.1 158 t = nI n ∧ (μ.1 157 t = -1 → n = 0)) ∧ ∀ i, i < 60 → μ.2 (3 + 2 * t) i = μ.2 (151 + t) i
def Rst (μ : Mem) : Prop := KI μ ∧ TX μ ∧ TP μ
def Inv (μ : Mem) : Prop := (∃ D, D_ok D ∧ XD 14 D μ ∧ MD D μ) ∧ Rst μ
/-! frames -/
theorem XR_fr {A : Nat → Nat → Prop} {k S T : Nat} {cost : Nat → Int32} {B : TA} {μ μ' : Mem} (h : XR k S T cost B μ) (ht : t_tree S T B.2.2.1) (f : fr A μ μ') (hA : ∀ c j, (c = k ∧ j ≤ 3) ∨ (k + 1 ≤ c ∧ c ≤ k + 8) → ¬ A c j) : XR k S T cost B μ' := by
  obtain ⟨h1, h2, h3, h4, h5, h6, h7, h8⟩ := h
  refine ⟨by rw [f.2 _ _ (hA _ _ (by omega))]; exact h1, by rw [f.2 _ _ (hA _ _ (by omega))]; exact h2, by rw [f.2 _ _ (hA _ _ (by omega))]; exact h3, fun c hc => by rw [f.2 _ _ (hA _ _ (by omega))]; exact h4 c hc, fun c hc => by rw [f.2 _ _ (hA _ _ (by omega))]; exact h5 c hc,
    fun c hc hp => by rw [f.2 _ _ (hA _ _ (by omega))]; exact h6 c hc hp, t_W_of ht h7 (fun v hv => ?_), fun j hj => by rw [f.2 _ _ (hA _ _ (by omega)), f.2 _ _ (hA _ _ (by omega)), f.2 _ _ (hA _ _ (by omega))]; exact h8 j hj⟩
  unfold xw
  rw [f.2 _ v (hA _ _ (by omega)), f.2 _ (v - 6) (hA _ _ (by omega))]
theorem XRw_fr {A : Nat → Nat → Prop} {b n0 : Nat} {r : TR} {μ μ' : Mem} (h : XRw b n0 r μ) (f : fr A μ μ') (hA : ∀ c j, b ≤ c ∧ c ≤ b + 2 → ¬ A c j) : XRw b n0 r μ' := by
  obtain ⟨h1, h2, h3⟩ := h
  refine ⟨by rw [f.2 _ _ (hA _ _ (by omega))]; exact h1, by rw [f.2 _ _ (hA _ _ (by omega))]; exact h2, fun j hj => by rw [f.2 _ _ (hA _ _ (by omega)), f.2 _ _ (hA _ _ (by omega))]; exact h3 j hj⟩
theorem XPl_fr {A : Nat → Nat → Prop} {k : Nat} {D : TD} {μ μ' : Mem} (h : XPl k D μ) (hD : D_ok D) (f : fr A μ μ') (hA : ∀ c j, k ≤ c ∧ c ≤ k + 8 → ¬ A c j) : XPl k D μ' := by
  obtain ⟨h1, h2, h3⟩ := h
  exact ⟨by rw [f.2 _ _ (hA _ _ (by omega))]; exact h1, fun hm => XR_fr (h2 hm) (hD.2.2.1 hm).2.2.1 f (fun c j q => hA c j (by omega)), fun c hc => by rw [f.2 _ _ (hA _ _ (by omega))]; exact h3 c hc⟩
theorem XD_fr {A : Nat → Nat → Prop} {b : Nat} {D : TD} {μ μ' : Mem} (h : XD b D μ) (hD : D_ok D) (f : fr A μ μ') (hA : ∀ c j, (b + 1 ≤ c ∧ c ≤ b + 16) ∨ (b + 28 ≤ c ∧ c ≤ b + 36) → ¬ A c j) : XD b D μ' := by
  obtain ⟨h1, h2, h3, h4, h5⟩ := h
  exact ⟨XG_fr h1 f (fun c j p q => hA c j (by omega)), XPl_fr h2 hD f (fun c j q => hA c j (by omega)), XRw_fr h3 f (fun c j q => hA c j (by omega)), XRw_fr h4 f (fun c j q => hA c j (by omega)), XRw_fr h5 f (fun c j q => hA c j (by omega))⟩
theorem MRw_fr {A : Nat → Nat → Prop} {fl a : Nat} {r : TR} {μ μ' : Mem} (h : MRw fl a r μ) (f : fr A μ μ') (hA : ∀ c j, (c = 122 ∧ j = fl) ∨ (a ≤ c ∧ c ≤ a + 1) → ¬ A c j) : MRw fl a r μ' := by
  obtain ⟨h1, h2⟩ := h
  exact ⟨by rw [f.2 _ _ (hA _ _ (by omega))]; exact h1, fun j hj => by rw [f.2 _ _ (hA _ _ (by omega)), f.2 _ _ (hA _ _ (by omega))]; exact h2 j hj⟩
theorem MR_fr2 {A : Nat → Nat → Prop} {S T : Nat} {cost : Nat → Int32} {B : TA} {μ μ' : Mem} (h : MR S T cost B μ) (hn : B.1 ≤ 100) (f : fr A μ μ') (hA : ∀ c j, (c = 122 ∧ (7 ≤ j ∧ j ≤ 9)) ∨ (127 ≤ c ∧ c ≤ 129 ∧ j < 36) ∨ (c = 130 ∧ j < 300) → ¬ A c j) : MR S T cost B μ' := by
  obtain ⟨h1, h2, h3, h4, h5, h6, h7⟩ := h
  exact ⟨by rw [f.2 _ _ (hA _ _ (by omega))]; exact h1, by rw [f.2 _ _ (hA _ _ (by omega))]; exact h2, by rw [f.2 _ _ (hA _ _ (by omega))]; exact h3, fun c hc => by rw [f.2 _ _ (hA _ _ (by omega))]; exact h4 c hc, fun c hc => by rw [f.2 _ _ (hA _ _ (by omega))]; exact h5 c hc,
    fun c hc hp => by rw [f.2 _ _ (hA _ _ (by omega))]; exact h6 c hc hp, fun j hj => by rw [f.2 _ _ (hA _ _ (by omega)), f.2 _ _ (hA _ _ (by omega)), f.2 _ _ (hA _ _ (by omega))]; exact h7 j hj⟩
theorem MPl_fr {A : Nat → Nat → Prop} {D : TD} {μ μ' : Mem} (h : MPl D μ) (hD : D_ok D) (f : fr A μ μ') (hA : ∀ c j, (c = 122 ∧ (6 ≤ j ∧ j ≤ 9)) ∨ (127 ≤ c ∧ c ≤ 129 ∧ j < 36) ∨ (c = 130 ∧ j < 300) → ¬ A c j) : MPl D μ' :=
  ⟨by rw [f.2 _ _ (hA _ _ (by omega))]; exact h.1, fun hm => MR_fr2 (h.2 hm) (hD.2.2.1 hm).2.2.2.2.2.2.2.2 f (fun c j q => hA c j (by omega))⟩
theorem MD_fr {A : Nat → Nat → Prop} {D : TD} {μ μ' : Mem} (h : MD D μ) (hD : D_ok D) (f : fr A μ μ') (hA : ∀ c j, (c = 122 ∧ (j ≤ 1 ∨ (6 ≤ j ∧ j ≤ 9) ∨ (20 ≤ j ∧ j ≤ 22))) ∨ (123 ≤ c ∧ c ≤ 136) → ¬ A c j) : MD D μ' := by
  obtain ⟨h1, h2, h3, h4, h5⟩ := h
  exact ⟨MG_fr h1 f (fun c j q => hA c j (by omega)), MPl_fr h2 hD f (fun c j q => hA c j (by omega)), MRw_fr h3 f (fun c j q => hA c j (by omega)), MRw_fr h4 f (fun c j q => hA c j (by omega)), MRw_fr h5 f (fun c j q => hA c j (by omega))⟩
theorem unp_fr {A : Nat → Nat → Prop} {μ μ' : Mem} (f : fr A μ μ') (hA : ∀ j, ¬ A 138 j) : unp μ' = unp μ := by
  have : μ'.1 138 = μ.1 138 := fr_c f hA
  unfold unp
  rw [this, f.1]
theorem KI_fr {A : Nat → Nat → Prop} {μ μ' : Mem} (h : KI μ) (f : fr A μ μ') (hA : ∀ c j, (c = 0 ∧ j = 2) ∨ (52 ≤ c ∧ c ≤ 67) ∨ (79 ≤ c ∧ c ≤ 87) ∨ (c = 122 ∧ j = 26) ∨ c = 138 → ¬ A c j) : KI μ' := by
  obtain ⟨⟨b1, b2, b3⟩, kp, h1, h2, h3⟩ := h
  refine ⟨⟨by rw [f.2 _ _ (hA _ _ (by omega))]; exact b1, by rw [f.2 _ _ (hA _ _ (by omega))]; exact b2, by rw [f.2 _ _ (hA _ _ (by omega))]; exact b3⟩, kp, by rw [f.2 _ _ (hA _ _ (by omega))]; exact h1, by rw [f.2 _ _ (hA _ _ (by omega))]; exact h2, fun hk => ?_⟩
  obtain ⟨D, d1, d2, d3⟩ := h3 hk
  refine ⟨D, d1, XD_fr d2 d1 f (fun c j q => hA c j (by omega)), ?_⟩
  rw [unp_fr f (fun j => hA _ _ (by omega))]
  exact d3
theorem TX_fr {A : Nat → Nat → Prop} {μ μ' : Mem} (h : TX μ) (f : fr A μ μ') (hA : ∀ c j, (c = 88 ∧ j = 0) ∨ c = 89 ∨ (c = 122 ∧ j = 24) ∨ c = 137 → ¬ A c j) : TX μ' := by
  obtain ⟨n, h1, h2, h3, h4⟩ := h
  exact ⟨n, h1, by rw [f.2 _ _ (hA _ _ (by omega))]; exact h2, by rw [f.2 _ _ (hA _ _ (by omega))]; exact h3, fun j hj => by rw [f.2 _ _ (hA _ _ (by omega)), f.2 _ _ (hA 137 _ (by omega))]; exact h4 j hj⟩
theorem TP_fr {A : Nat → Nat → Prop} {μ μ' : Mem} (h : TP μ) (f : fr A μ μ') (hA : ∀ c j, (2 ≤ c ∧ c ≤ 13) ∨ c = 157 ∨ c = 158 → ¬ A c j) : TP μ' := by
  intro t ht
  have := h t ht
  rw [f.2 _ _ (hA (2 + 2 * t) 0 (by omega)), f.2 _ _ (hA (2 + 2 * t) 1 (by omega)), f.2 _ _ (hA 157 t (by omega)), f.2 _ _ (hA 158 t (by omega)), f.1]
  exact this
theorem Rst_fr {A : Nat → Nat → Prop} {μ μ' : Mem} (h : Rst μ) (f : fr A μ μ') (hA : ∀ c j, (c = 0 ∧ j = 2) ∨ (52 ≤ c ∧ c ≤ 67) ∨ (79 ≤ c ∧ c ≤ 87) ∨ (c = 122 ∧ (j = 24 ∨ j = 26)) ∨ c = 137 ∨ c = 138 ∨ (c = 88 ∧ j = 0) ∨ c = 89 ∨ (2 ≤ c ∧ c ≤ 13) ∨ c = 157 ∨ c = 158 → ¬ A c j) : Rst μ' :=
  ⟨KI_fr h.1 f (fun c j q => hA c j (by omega)), TX_fr h.2.1 f (fun c j q => hA c j (by omega)), TP_fr h.2.2 f (fun c j q => hA c j (by omega))⟩
/-- scratch -/
def SCR : Nat → Nat → Prop := fun c j => (31 ≤ c ∧ c ≤ 41) ∨ (95 ≤ c ∧ c ≤ 121) ∨ (139 ≤ c ∧ c ≤ 149) ∨ (c = 122 ∧ (j = 30 ∨ j = 41 ∨ j = 42))
theorem Inv_scr {μ μ' : Mem} (h : Inv μ) (f : fr SCR μ μ') : Inv μ' := by
  obtain ⟨⟨D, d1, d2, d3⟩, r⟩ := h
  exact ⟨⟨D, d1, XD_fr d2 d1 f (fun c j q => by unfold SCR; omega), MD_fr d3 d1 f (fun c j q => by unfold SCR; omega)⟩, Rst_fr r f (fun c j q => by unfold SCR; omega)⟩
/-! the first memory -/
def D0 : TD := ((0, 0, fun _ => 0, fun _ => 0, fun _ => 0, fun _ => 10), false, (0, fun _ => 0, fun _ => false, fun _ => 0, fun _ => 0, fun _ => 0), (0, fun _ => 0, fun _ => 0), (0, fun _ => 0, fun _ => 0), (0, fun _ => 0, fun _ => 0))
theorem Inv_mu0 : Inv mu0 := by
  refine ⟨⟨D0, ⟨⟨by decide, by decide, ?_, ?_, ?_, ?_⟩, ?_, fun h => (by cases h), by decide, fun j h => (by cases h), by decide, fun j h => (by cases h), by decide, fun j h => (by cases h)⟩, ⟨⟨by decide +kernel, by decide +kernel, ?_, ?_⟩, ⟨by decide +kernel, fun h => (by cases h), ?_⟩, ⟨by decide +kernel, by decide +kernel, fun j h => (by cases h)⟩, ⟨by decide +kernel, by decide +kernel, fun j h => (by cases h)⟩, ⟨by decide +kernel, by decide +kernel, fun j h => (by cases h)⟩⟩,
    ⟨⟨by decide +kernel, by decide +kernel, ?_, ?_⟩, ⟨by decide +kernel, fun h => (by cases h)⟩, ⟨by decide +kernel, fun j h => (by cases h)⟩, ⟨by decide +kernel, fun j h => (by cases h)⟩, ⟨by decide +kernel, fun j h => (by cases h)⟩⟩⟩, ⟨⟨by decide +kernel, by decide +kernel, by decide +kernel⟩, false, by decide +kernel, by decide +kernel, fun h => (by cases h)⟩, ⟨0, by decide, by decide +kernel, by decide +kernel, fun j h => (by cases h)⟩, ?_⟩
  · show ∀ i, i < 10 → 0 ≤ (0 : Int32).toInt ∧ (0 : Int32).toInt ≤ 100
    intro i _; decide
  · show ∀ i, i < 10 → 0 ≤ (0 : Int32).toInt ∧ (0 : Int32).toInt ≤ 9
    intro i _; decide
  · show ∀ i, i < 25 → 0 ≤ (0 : Int32).toInt ∧ (0 : Int32).toInt ≤ 3
    intro i _; decide
  · show ∀ i, i < 25 → 0 ≤ (10 : Int32).toInt ∧ (10 : Int32).toInt ≤ 99
    intro i _; decide
  · show ∀ i, i < 10 → (0 : Int32).toInt ≤ 99
    intro i _; decide
  · show ∀ i, i < 5 → mu0.1 16 i = 0 ∧ mu0.1 17 i = 0 ∧ mu0.1 18 i = 0 ∧ mu0.1 19 i = 0
    decide +kernel
  · show ∀ i, i < 25 → mu0.1 20 i = 0 ∧ mu0.1 21 i = 10
    decide +kernel
  · show ∀ c, c < 36 → mu0.1 25 c = 0 ∨ mu0.1 25 c = 1
    decide +kernel
  · show ∀ i, i < 10 → mu0.1 123 i = 0 ∧ mu0.1 124 i = 0
    decide +kernel
  · show ∀ i, i < 25 → mu0.1 125 i = 0 ∧ mu0.1 126 i = 10
    decide +kernel
  · intro t ht
    have a : ∀ t, t < 6 → mu0.1 (2 + 2 * t) 0 = mu0.1 157 t ∧ mu0.1 (2 + 2 * t) 1 = mu0.1 158 t ∧ mu0.1 157 t = -1 ∧ mu0.1 158 t = 0 := by decide +kernel
    obtain ⟨a1, a2, a3, a4⟩ := a t ht
    refine ⟨a1, a2, by rw [a3]; decide, by rw [a3]; decide, ⟨0, by decide, by rw [a4]; rfl, fun _ => rfl⟩, fun i _ => rfl⟩
