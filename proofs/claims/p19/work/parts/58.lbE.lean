/-- not by rfl, so that the kernel need not compute -/
theorem mh_lbE {α β : Type} (e : α) (k : α → β) : mh_lb e k = k e := mh_lbT rfl rfl
theorem mh_lb2E {α γ β : Type} (e : α × γ) (k : α → γ → β) : mh_lb2 e k = k e.1 e.2 := mh_lb2T rfl rfl
