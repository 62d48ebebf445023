def flM (G : Geo) (f : Nat → Int32) (g : Nat → Int64) : List Value := [.int (f 0), .ref (G.1 1), .ref (G.1 2), .ref (G.1 3), .int (f 4), .ref (G.1 4), .ref (G.1 5), .ref (G.1 6), .ref (G.1 7), .ref (G.1 8), .int (f 10), .int (f 11), .int (f 12), .int (f 13), .int (f 14), .ref (G.1 9), .ref (G.1 10), .int (f 17), .int (f 18), .ref (G.1 11), .ref (G.1 12), .int (f 21), .ref (G.1 13), .int (f 23), .int (f 24), .int (f 25), .long (g 26), .int (f 27), .int (f 28), .int (f 29), .int (f 30), .ref (G.1 14), .ref (G.1 15), .ref (G.1 16), .int (f 34), .ref (G.1 17), .ref (G.1 18), .ref (G.1 19), .ref (G.1 20), .ref (G.1 21), .ref (G.1 22), .int (f 41), .ref (G.1 23), .ref (G.1 24), .int (f 44), .ref (G.1 25), .ref (G.1 26), .ref (G.1 27), .ref (G.1 28)]
def enM (G : Geo) : En := fun k => ([fun f g => .inr (8, flM G f g), fun f g => .inl (G.2.2.1, 5, .inl f), fun f g => .inl (G.2.2.1, 5, .inl f), fun f g => .inl (G.2.2.1, 5, .inl f), fun f g => .inl (G.2.2.1, 8, .inl f), fun f g => .inl (G.2.2.1, 8, .inl f), fun f g => .inl (G.2.2.1, 8, .inl f), fun f g => .inl (G.2.2.1, 8, .inl f), fun f g => .inl (G.2.2.1, 8, .inl f), fun f g => .inl (G.2.2.1, 5, .inl f), fun f g => .inl (G.2.2.1, 5, .inl f), fun f g => .inl (G.2.2.1, 200, .inl f), fun f g => .inl (G.2.2.1, 200, .inl f), fun f g => .inl (G.2.2.1, 400, .inl f), fun f g => .inl (G.2.2.1, 5, .inl f), fun f g => .inl (G.2.2.1, 5, .inl f), fun f g => .inl (G.2.2.1, 5, .inl f), fun f g => .inl (G.2.2.1, 8, .inl f), fun f g => .inl (G.2.2.1, 8, .inl f), fun f g => .inl (G.2.2.1, 8, .inl f), fun f g => .inl (G.2.2.1, 8, .inl f), fun f g => .inl (G.2.2.1, 8, .inl f), fun f g => .inl (G.2.2.1, 8, .inl f), fun f g => .inl (G.2.2.1, 8, .inl f), fun f g => .inl (G.2.2.2.1, 8, .inr (.inl g)), fun f g => .inl (G.2.2.1, 40, .inl f), fun f g => .inl (G.2.2.1, 40, .inl f), fun f g => .inl (G.2.2.1, 860, .inl f), fun f g => .inl (G.2.2.2.2, 2, .inl f)] : List ((Nat → Int32) → (Nat → Int64) → va_E)).getD k (fun _ _ => .inr (0, []))
abbrev wM (G : Geo) : St → va_W := wl 29 (enM G) G.1
theorem oM (G : Geo) : ∀ f g, enM G 0 f g = .inr (8, flM G f g) := fun _ _ => rfl
theorem aM_1 (G : Geo) : ∀ f g, enM G 1 f g = .inl (G.2.2.1, 5, .inl f) := fun _ _ => rfl
theorem aM_2 (G : Geo) : ∀ f g, enM G 2 f g = .inl (G.2.2.1, 5, .inl f) := fun _ _ => rfl
theorem aM_3 (G : Geo) : ∀ f g, enM G 3 f g = .inl (G.2.2.1, 5, .inl f) := fun _ _ => rfl
theorem aM_4 (G : Geo) : ∀ f g, enM G 4 f g = .inl (G.2.2.1, 8, .inl f) := fun _ _ => rfl
theorem aM_5 (G : Geo) : ∀ f g, enM G 5 f g = .inl (G.2.2.1, 8, .inl f) := fun _ _ => rfl
theorem aM_6 (G : Geo) : ∀ f g, enM G 6 f g = .inl (G.2.2.1, 8, .inl f) := fun _ _ => rfl
theorem aM_7 (G : Geo) : ∀ f g, enM G 7 f g = .inl (G.2.2.1, 8, .inl f) := fun _ _ => rfl
theorem aM_8 (G : Geo) : ∀ f g, enM G 8 f g = .inl (G.2.2.1, 8, .inl f) := fun _ _ => rfl
theorem aM_9 (G : Geo) : ∀ f g, enM G 9 f g = .inl (G.2.2.1, 5, .inl f) := fun _ _ => rfl
theorem aM_10 (G : Geo) : ∀ f g, enM G 10 f g = .inl (G.2.2.1, 5, .inl f) := fun _ _ => rfl
theorem aM_11 (G : Geo) : ∀ f g, enM G 11 f g = .inl (G.2.2.1, 200, .inl f) := fun _ _ => rfl
theorem aM_12 (G : Geo) : ∀ f g, enM G 12 f g = .inl (G.2.2.1, 200, .inl f) := fun _ _ => rfl
theorem aM_13 (G : Geo) : ∀ f g, enM G 13 f g = .inl (G.2.2.1, 400, .inl f) := fun _ _ => rfl
theorem aM_14 (G : Geo) : ∀ f g, enM G 14 f g = .inl (G.2.2.1, 5, .inl f) := fun _ _ => rfl
theorem aM_15 (G : Geo) : ∀ f g, enM G 15 f g = .inl (G.2.2.1, 5, .inl f) := fun _ _ => rfl
theorem aM_16 (G : Geo) : ∀ f g, enM G 16 f g = .inl (G.2.2.1, 5, .inl f) := fun _ _ => rfl
theorem aM_17 (G : Geo) : ∀ f g, enM G 17 f g = .inl (G.2.2.1, 8, .inl f) := fun _ _ => rfl
theorem aM_18 (G : Geo) : ∀ f g, enM G 18 f g = .inl (G.2.2.1, 8, .inl f) := fun _ _ => rfl
theorem aM_19 (G : Geo) : ∀ f g, enM G 19 f g = .inl (G.2.2.1, 8, .inl f) := fun _ _ => rfl
theorem aM_20 (G : Geo) : ∀ f g, enM G 20 f g = .inl (G.2.2.1, 8, .inl f) := fun _ _ => rfl
theorem aM_21 (G : Geo) : ∀ f g, enM G 21 f g = .inl (G.2.2.1, 8, .inl f) := fun _ _ => rfl
theorem aM_22 (G : Geo) : ∀ f g, enM G 22 f g = .inl (G.2.2.1, 8, .inl f) := fun _ _ => rfl
theorem aM_23 (G : Geo) : ∀ f g, enM G 23 f g = .inl (G.2.2.1, 8, .inl f) := fun _ _ => rfl
theorem aM_24 (G : Geo) : ∀ f g, enM G 24 f g = .inl (G.2.2.2.1, 8, .inr (.inl g)) := fun _ _ => rfl
theorem aM_25 (G : Geo) : ∀ f g, enM G 25 f g = .inl (G.2.2.1, 40, .inl f) := fun _ _ => rfl
theorem aM_26 (G : Geo) : ∀ f g, enM G 26 f g = .inl (G.2.2.1, 40, .inl f) := fun _ _ => rfl
theorem aM_27 (G : Geo) : ∀ f g, enM G 27 f g = .inl (G.2.2.1, 860, .inl f) := fun _ _ => rfl
theorem aM_28 (G : Geo) : ∀ f g, enM G 28 f g = .inl (G.2.2.2.2, 2, .inl f) := fun _ _ => rfl
def flX0 (G : Geo) (p : Nat) (f : Nat → Int32) (g : Nat → Int64) : List Value := [.ref (G.1 3), .ref (G.1 (p + 1)), .int (f 2), .ref (G.1 (p + 6)), .ref (G.1 (p + 7)), .int (f 5), .int (f 6), .ref (G.1 (p + 8)), .ref (G.1 (p + 9)), .int (f 9), .ref (G.1 (p + 10))]
def flX1 (G : Geo) (p : Nat) (f : Nat → Int32) (g : Nat → Int64) : List Value := [.ref (G.1 3), .ref (G.1 (p + 1)), .int (f 2), .int (f 3), .int (f 4), .int (f 5), .ref (G.1 (p + 2)), .ref (G.1 (p + 3)), .ref (G.1 (p + 4))]
def flX2 (G : Geo) (p : Nat) (f : Nat → Int32) (g : Nat → Int64) : List Value := [.ref (G.1 3), .ref (G.1 (p + 1)), .ref (G.1 (p + 6)), .ref (G.1 (p + 11)), .int (f 4), .int (f 5), .int (f 6)]
def flX3 (G : Geo) (p : Nat) (f : Nat → Int32) (g : Nat → Int64) : List Value := [.ref (G.1 (p + 1)), .int (f 1), .long (g 2), .long (g 3)]
def flX4 (G : Geo) (p : Nat) (f : Nat → Int32) (g : Nat → Int64) : List Value := [.ref (G.1 (p + 1)), .int (f 1), .ref (G.1 11), .int (f 3), .int (f 4), .int (f 5)]
def flX5 (G : Geo) (p : Nat) (f : Nat → Int32) (g : Nat → Int64) : List Value := [.int (f 0), .ref (G.1 (p + 1)), .ref (G.1 (p + 2)), .ref (G.1 (p + 3)), .int (f 4), .ref (G.1 (p + 4)), .ref (G.1 (p + 5)), .ref (G.1 (p + 6)), .ref (G.1 (p + 7))]
def flX6 (G : Geo) (p : Nat) (f : Nat → Int32) (g : Nat → Int64) : List Value := [.int (f 0), .ref (G.1 (p + 1)), .ref (G.1 (p + 2)), .ref (G.1 (p + 3))]
def flX7 (G : Geo) (p : Nat) (f : Nat → Int32) (g : Nat → Int64) : List Value := [.ref (G.1 1), .ref (G.1 3), .ref (G.1 19), .ref (G.1 30), .ref (G.1 41), .int (f 5), .ref (G.1 52), .ref (G.1 60), .ref (G.1 72)]
def enC (G : Geo) : En := fun k => ([fun f g => .inr (7, flX7 G 0 f g), fun f g => .inr (4, flX4 G 1 f g), fun f g => .inl (G.2.1, 400, .inl f), fun f g => .inr (5, flX5 G 3 f g), fun f g => .inl (G.2.2.1, 5, .inl f), fun f g => .inl (G.2.2.1, 5, .inl f), fun f g => .inl (G.2.2.1, 5, .inl f), fun f g => .inl (G.2.2.1, 8, .inl f), fun f g => .inl (G.2.2.1, 8, .inl f), fun f g => .inl (G.2.2.1, 8, .inl f), fun f g => .inl (G.2.2.1, 8, .inl f), fun f g => .inr (5, flX5 G 11 f g), fun f g => .inl (G.2.2.1, 5, .inl f), fun f g => .inl (G.2.2.1, 5, .inl f), fun f g => .inl (G.2.2.1, 5, .inl f), fun f g => .inl (G.2.2.1, 8, .inl f), fun f g => .inl (G.2.2.1, 8, .inl f), fun f g => .inl (G.2.2.1, 8, .inl f), fun f g => .inl (G.2.2.1, 8, .inl f), fun f g => .inr (0, flX0 G 19 f g), fun f g => .inr (1, flX1 G 20 f g), fun f g => .inl (G.2.2.1, 8, .inl f), fun f g => .inl (G.2.2.1, 8, .inl f), fun f g => .inl (G.2.2.1, 8, .inl f), fun f g => .inl (G.2.2.1, 8, .inl f), fun f g => .inl (G.2.2.1, 5, .inl f), fun f g => .inl (G.2.2.1, 5, .inl f), fun f g => .inl (G.2.2.1, 200, .inl f), fun f g => .inl (G.2.2.1, 200, .inl f), fun f g => .inl (G.2.2.1, 8, .inl f), fun f g => .inr (0, flX0 G 30 f g), fun f g => .inr (1, flX1 G 31 f g), fun f g => .inl (G.2.2.1, 8, .inl f), fun f g => .inl (G.2.2.1, 8, .inl f), fun f g => .inl (G.2.2.1, 8, .inl f), fun f g => .inl (G.2.2.1, 8, .inl f), fun f g => .inl (G.2.2.1, 5, .inl f), fun f g => .inl (G.2.2.1, 5, .inl f), fun f g => .inl (G.2.2.1, 200, .inl f), fun f g => .inl (G.2.2.1, 200, .inl f), fun f g => .inl (G.2.2.1, 8, .inl f), fun f g => .inr (0, flX0 G 41 f g), fun f g => .inr (1, flX1 G 42 f g), fun f g => .inl (G.2.2.1, 8, .inl f), fun f g => .inl (G.2.2.1, 8, .inl f), fun f g => .inl (G.2.2.1, 8, .inl f), fun f g => .inl (G.2.2.1, 8, .inl f), fun f g => .inl (G.2.2.1, 5, .inl f), fun f g => .inl (G.2.2.1, 5, .inl f), fun f g => .inl (G.2.2.1, 200, .inl f), fun f g => .inl (G.2.2.1, 200, .inl f), fun f g => .inl (G.2.2.1, 8, .inl f), fun f g => .inr (6, flX6 G 52 f g), fun f g => .inl (G.2.2.1, 40, .inl f), fun f g => .inl (G.2.2.1, 40, .inl f), fun f g => .inr (1, flX1 G 55 f g), fun f g => .inl (G.2.2.1, 8, .inl f), fun f g => .inl (G.2.2.1, 8, .inl f), fun f g => .inl (G.2.2.1, 8, .inl f), fun f g => .inl (G.2.2.1, 8, .inl f), fun f g => .inr (2, flX2 G 60 f g), fun f g => .inr (1, flX1 G 61 f g), fun f g => .inl (G.2.2.1, 8, .inl f), fun f g => .inl (G.2.2.1, 8, .inl f), fun f g => .inl (G.2.2.1, 8, .inl f), fun f g => .inl (G.2.2.1, 8, .inl f), fun f g => .inr (1, flX1 G 66 f g), fun f g => .inl (G.2.2.1, 8, .inl f), fun f g => .inl (G.2.2.1, 8, .inl f), fun f g => .inl (G.2.2.1, 8, .inl f), fun f g => .inl (G.2.2.1, 8, .inl f), fun f g => .inl (G.2.2.1, 20, .inl f), fun f g => .inr (3, flX3 G 72 f g), fun f g => .inl (G.2.2.2.1, 7, .inr (.inl g))] : List ((Nat → Int32) → (Nat → Int64) → va_E)).getD k (fun _ _ => .inr (0, []))
abbrev wC (G : Geo) : St → va_W := wl 74 (enC G) G.1
abbrev is_X7 (p : Nat) : Prop := p = 0
abbrev is_X4 (p : Nat) : Prop := p = 1
abbrev is_X5 (p : Nat) : Prop := p = 3 ∨ p = 11
abbrev is_X0 (p : Nat) : Prop := p = 19 ∨ p = 30 ∨ p = 41
abbrev is_X1 (p : Nat) : Prop := p = 20 ∨ p = 31 ∨ p = 42 ∨ p = 55 ∨ p = 61 ∨ p = 66
abbrev is_X6 (p : Nat) : Prop := p = 52
abbrev is_X2 (p : Nat) : Prop := p = 60
abbrev is_X3 (p : Nat) : Prop := p = 72
theorem lt_X7 {p : Nat} (h : is_X7 p) : p < 74 := by
  subst h
  decide
theorem oC_X7 (G : Geo) {p : Nat} (h : is_X7 p) : ∀ f g, enC G p f g = .inr (7, flX7 G p f g) := by
  subst h
  exact fun _ _ => rfl
theorem lt_X4 {p : Nat} (h : is_X4 p) : p < 74 := by
  subst h
  decide
theorem oC_X4 (G : Geo) {p : Nat} (h : is_X4 p) : ∀ f g, enC G p f g = .inr (4, flX4 G p f g) := by
  subst h
  exact fun _ _ => rfl
theorem ltA_X4_text {p : Nat} (h : is_X4 p) : p + 1 < 74 := by
  subst h
  decide
theorem aC_X4_text (G : Geo) {p : Nat} (h : is_X4 p) : ∀ f g, enC G (p + 1) f g = .inl (G.2.1, 400, .inl f) := by
  subst h
  exact fun _ _ => rfl
theorem lt_X5 {p : Nat} (h : is_X5 p) : p < 74 := by
  rcases h with rfl | rfl <;> decide
theorem oC_X5 (G : Geo) {p : Nat} (h : is_X5 p) : ∀ f g, enC G p f g = .inr (5, flX5 G p f g) := by
  rcases h with rfl | rfl <;> exact fun _ _ => rfl
theorem ltA_X5_need {p : Nat} (h : is_X5 p) : p + 1 < 74 := by
  rcases h with rfl | rfl <;> decide
theorem aC_X5_need (G : Geo) {p : Nat} (h : is_X5 p) : ∀ f g, enC G (p + 1) f g = .inl (G.2.2.1, 5, .inl f) := by
  rcases h with rfl | rfl <;> exact fun _ _ => rfl
theorem ltA_X5_worth {p : Nat} (h : is_X5 p) : p + 2 < 74 := by
  rcases h with rfl | rfl <;> decide
theorem aC_X5_worth (G : Geo) {p : Nat} (h : is_X5 p) : ∀ f g, enC G (p + 2) f g = .inl (G.2.2.1, 5, .inl f) := by
  rcases h with rfl | rfl <;> exact fun _ _ => rfl
theorem ltA_X5_bed {p : Nat} (h : is_X5 p) : p + 3 < 74 := by
  rcases h with rfl | rfl <;> decide
theorem aC_X5_bed (G : Geo) {p : Nat} (h : is_X5 p) : ∀ f g, enC G (p + 3) f g = .inl (G.2.2.1, 5, .inl f) := by
  rcases h with rfl | rfl <;> exact fun _ _ => rfl
theorem ltA_X5_home {p : Nat} (h : is_X5 p) : p + 4 < 74 := by
  rcases h with rfl | rfl <;> decide
theorem aC_X5_home (G : Geo) {p : Nat} (h : is_X5 p) : ∀ f g, enC G (p + 4) f g = .inl (G.2.2.1, 8, .inl f) := by
  rcases h with rfl | rfl <;> exact fun _ _ => rfl
theorem ltA_X5_wake {p : Nat} (h : is_X5 p) : p + 5 < 74 := by
  rcases h with rfl | rfl <;> decide
theorem aC_X5_wake (G : Geo) {p : Nat} (h : is_X5 p) : ∀ f g, enC G (p + 5) f g = .inl (G.2.2.1, 8, .inl f) := by
  rcases h with rfl | rfl <;> exact fun _ _ => rfl
theorem ltA_X5_span {p : Nat} (h : is_X5 p) : p + 6 < 74 := by
  rcases h with rfl | rfl <;> decide
theorem aC_X5_span (G : Geo) {p : Nat} (h : is_X5 p) : ∀ f g, enC G (p + 6) f g = .inl (G.2.2.1, 8, .inl f) := by
  rcases h with rfl | rfl <;> exact fun _ _ => rfl
theorem ltA_X5_light {p : Nat} (h : is_X5 p) : p + 7 < 74 := by
  rcases h with rfl | rfl <;> decide
theorem aC_X5_light (G : Geo) {p : Nat} (h : is_X5 p) : ∀ f g, enC G (p + 7) f g = .inl (G.2.2.1, 8, .inl f) := by
  rcases h with rfl | rfl <;> exact fun _ _ => rfl
theorem lt_X0 {p : Nat} (h : is_X0 p) : p < 74 := by
  rcases h with rfl | rfl | rfl <;> decide
theorem oC_X0 (G : Geo) {p : Nat} (h : is_X0 p) : ∀ f g, enC G p f g = .inr (0, flX0 G p f g) := by
  rcases h with rfl | rfl | rfl <;> exact fun _ _ => rfl
theorem is_X0_night {p : Nat} (h : is_X0 p) : is_X1 (p + 1) := by
  rcases h with rfl | rfl | rfl <;> decide
theorem ltA_X0_onEnd {p : Nat} (h : is_X0 p) : p + 6 < 74 := by
  rcases h with rfl | rfl | rfl <;> decide
theorem aC_X0_onEnd (G : Geo) {p : Nat} (h : is_X0 p) : ∀ f g, enC G (p + 6) f g = .inl (G.2.2.1, 5, .inl f) := by
  rcases h with rfl | rfl | rfl <;> exact fun _ _ => rfl
theorem ltA_X0_done {p : Nat} (h : is_X0 p) : p + 7 < 74 := by
  rcases h with rfl | rfl | rfl <;> decide
theorem aC_X0_done (G : Geo) {p : Nat} (h : is_X0 p) : ∀ f g, enC G (p + 7) f g = .inl (G.2.2.1, 5, .inl f) := by
  rcases h with rfl | rfl | rfl <;> exact fun _ _ => rfl
theorem ltA_X0_rulers {p : Nat} (h : is_X0 p) : p + 8 < 74 := by
  rcases h with rfl | rfl | rfl <;> decide
theorem aC_X0_rulers (G : Geo) {p : Nat} (h : is_X0 p) : ∀ f g, enC G (p + 8) f g = .inl (G.2.2.1, 200, .inl f) := by
  rcases h with rfl | rfl | rfl <;> exact fun _ _ => rfl
theorem ltA_X0_minutes {p : Nat} (h : is_X0 p) : p + 9 < 74 := by
  rcases h with rfl | rfl | rfl <;> decide
theorem aC_X0_minutes (G : Geo) {p : Nat} (h : is_X0 p) : ∀ f g, enC G (p + 9) f g = .inl (G.2.2.1, 200, .inl f) := by
  rcases h with rfl | rfl | rfl <;> exact fun _ _ => rfl
theorem ltA_X0_awake {p : Nat} (h : is_X0 p) : p + 10 < 74 := by
  rcases h with rfl | rfl | rfl <;> decide
theorem aC_X0_awake (G : Geo) {p : Nat} (h : is_X0 p) : ∀ f g, enC G (p + 10) f g = .inl (G.2.2.1, 8, .inl f) := by
  rcases h with rfl | rfl | rfl <;> exact fun _ _ => rfl
theorem lt_X1 {p : Nat} (h : is_X1 p) : p < 74 := by
  rcases h with rfl | rfl | rfl | rfl | rfl | rfl <;> decide
theorem oC_X1 (G : Geo) {p : Nat} (h : is_X1 p) : ∀ f g, enC G p f g = .inr (1, flX1 G p f g) := by
  rcases h with rfl | rfl | rfl | rfl | rfl | rfl <;> exact fun _ _ => rfl
theorem ltA_X1_shifted {p : Nat} (h : is_X1 p) : p + 1 < 74 := by
  rcases h with rfl | rfl | rfl | rfl | rfl | rfl <;> decide
theorem aC_X1_shifted (G : Geo) {p : Nat} (h : is_X1 p) : ∀ f g, enC G (p + 1) f g = .inl (G.2.2.1, 8, .inl f) := by
  rcases h with rfl | rfl | rfl | rfl | rfl | rfl <;> exact fun _ _ => rfl
theorem ltA_X1_first {p : Nat} (h : is_X1 p) : p + 2 < 74 := by
  rcases h with rfl | rfl | rfl | rfl | rfl | rfl <;> decide
theorem aC_X1_first (G : Geo) {p : Nat} (h : is_X1 p) : ∀ f g, enC G (p + 2) f g = .inl (G.2.2.1, 8, .inl f) := by
  rcases h with rfl | rfl | rfl | rfl | rfl | rfl <;> exact fun _ _ => rfl
theorem ltA_X1_last {p : Nat} (h : is_X1 p) : p + 3 < 74 := by
  rcases h with rfl | rfl | rfl | rfl | rfl | rfl <;> decide
theorem aC_X1_last (G : Geo) {p : Nat} (h : is_X1 p) : ∀ f g, enC G (p + 3) f g = .inl (G.2.2.1, 8, .inl f) := by
  rcases h with rfl | rfl | rfl | rfl | rfl | rfl <;> exact fun _ _ => rfl
theorem ltA_X1_roof {p : Nat} (h : is_X1 p) : p + 4 < 74 := by
  rcases h with rfl | rfl | rfl | rfl | rfl | rfl <;> decide
theorem aC_X1_roof (G : Geo) {p : Nat} (h : is_X1 p) : ∀ f g, enC G (p + 4) f g = .inl (G.2.2.1, 8, .inl f) := by
  rcases h with rfl | rfl | rfl | rfl | rfl | rfl <;> exact fun _ _ => rfl
theorem lt_X6 {p : Nat} (h : is_X6 p) : p < 74 := by
  subst h
  decide
theorem oC_X6 (G : Geo) {p : Nat} (h : is_X6 p) : ∀ f g, enC G p f g = .inr (6, flX6 G p f g) := by
  subst h
  exact fun _ _ => rfl
theorem ltA_X6_who {p : Nat} (h : is_X6 p) : p + 1 < 74 := by
  subst h
  decide
theorem aC_X6_who (G : Geo) {p : Nat} (h : is_X6 p) : ∀ f g, enC G (p + 1) f g = .inl (G.2.2.1, 40, .inl f) := by
  subst h
  exact fun _ _ => rfl
theorem ltA_X6_minutes {p : Nat} (h : is_X6 p) : p + 2 < 74 := by
  subst h
  decide
theorem aC_X6_minutes (G : Geo) {p : Nat} (h : is_X6 p) : ∀ f g, enC G (p + 2) f g = .inl (G.2.2.1, 40, .inl f) := by
  subst h
  exact fun _ _ => rfl
theorem is_X6_trial {p : Nat} (h : is_X6 p) : is_X1 (p + 3) := by
  subst h
  decide
theorem lt_X2 {p : Nat} (h : is_X2 p) : p < 74 := by
  subst h
  decide
theorem oC_X2 (G : Geo) {p : Nat} (h : is_X2 p) : ∀ f g, enC G p f g = .inr (2, flX2 G p f g) := by
  subst h
  exact fun _ _ => rfl
theorem is_X2_plan {p : Nat} (h : is_X2 p) : is_X1 (p + 1) := by
  subst h
  decide
theorem is_X2_trial {p : Nat} (h : is_X2 p) : is_X1 (p + 6) := by
  subst h
  decide
theorem ltA_X2_codes {p : Nat} (h : is_X2 p) : p + 11 < 74 := by
  subst h
  decide
theorem aC_X2_codes (G : Geo) {p : Nat} (h : is_X2 p) : ∀ f g, enC G (p + 11) f g = .inl (G.2.2.1, 20, .inl f) := by
  subst h
  exact fun _ _ => rfl
theorem lt_X3 {p : Nat} (h : is_X3 p) : p < 74 := by
  subst h
  decide
theorem oC_X3 (G : Geo) {p : Nat} (h : is_X3 p) : ∀ f g, enC G p f g = .inr (3, flX3 G p f g) := by
  subst h
  exact fun _ _ => rfl
theorem ltA_X3_parts {p : Nat} (h : is_X3 p) : p + 1 < 74 := by
  subst h
  decide
theorem aC_X3_parts (G : Geo) {p : Nat} (h : is_X3 p) : ∀ f g, enC G (p + 1) f g = .inl (G.2.2.2.1, 7, .inr (.inl g)) := by
  subst h
  exact fun _ _ => rfl
def isArrM (G : Geo) (r n : Nat) : Prop := r < 29 ∧ ∀ f g, enM G r f g = .inl (G.2.2.1, n, .inl f)
def isArrC (G : Geo) (r n : Nat) : Prop := r < 74 ∧ ∀ f g, enC G r f g = .inl (G.2.2.1, n, .inl f)
def isArrL (G : Geo) (r n : Nat) : Prop := r < 74 ∧ ∀ f g, enC G r f g = .inl (G.2.2.2.1, n, .inr (.inl g))
theorem pn_X0 : plainName RX0 = true := by decide +kernel
theorem pn_X1 : plainName RX1 = true := by decide +kernel
theorem pn_X2 : plainName RX2 = true := by decide +kernel
theorem pn_X3 : plainName RX3 = true := by decide +kernel
theorem pn_X4 : plainName RX4 = true := by decide +kernel
theorem pn_X5 : plainName RX5 = true := by decide +kernel
theorem pn_X6 : plainName RX6 = true := by decide +kernel
theorem pn_X7 : plainName RX7 = true := by decide +kernel
theorem pn_X8 : plainName RX8 = true := by decide +kernel
theorem pn_J7 : plainName RJ7 = true := by decide +kernel
