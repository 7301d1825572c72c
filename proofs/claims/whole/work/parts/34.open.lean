/-! pure part: who gets a spot and what it pays, on both sides -/
theorem sh_sh (σ : MS) (a b : Nat → Int32) : ms_shared (ms_shared σ a) b = ms_shared σ b := rfl
theorem du_du (σ : MS) (a b : Nat → Int32) : ms_due (ms_due σ a) b = ms_due σ b := rfl
theorem be_be (σ : MS) (a b : Nat → Int32) : ms_best (ms_best σ a) b = ms_best σ b := rfl
theorem be_sh (σ : MS) (a b : Nat → Int32) : ms_best (ms_shared σ a) b = ms_shared (ms_best σ b) a := rfl
theorem be_du (σ : MS) (a b : Nat → Int32) : ms_best (ms_due σ a) b = ms_due (ms_best σ b) a := rfl
theorem g_sh (σ : MS) (a : Nat → Int32) : m_shared (ms_shared σ a) = a := rfl
theorem g_du (σ : MS) (a : Nat → Int32) : m_due (ms_due σ a) = a := rfl
theorem g_shdu (σ : MS) (a : Nat → Int32) : m_shared (ms_due σ a) = m_shared σ := rfl
theorem s_du (σ : MS) (a : Nat → Int32) : m_s (ms_due σ a) = m_s σ := rfl
theorem s_sh (σ : MS) (a : Nat → Int32) : m_s (ms_shared σ a) = m_s σ := rfl
theorem s_be (σ : MS) (a : Nat → Int32) : m_s (ms_best σ a) = m_s σ := rfl
theorem du_self (σ : MS) : ms_due σ (m_due σ) = σ := rfl
theorem sh_self (σ : MS) : ms_shared σ (m_shared σ) = σ := rfl
theorem AskM.du {σ : MS} {a k x : Int32} (h : AskM σ a k x) (f : Nat → Int32) : AskM (ms_due σ f) a k x := h
theorem AskM.sh {σ : MS} {a k x : Int32} (h : AskM σ a k x) (f : Nat → Int32) : AskM (ms_shared σ f) a k x := h
theorem AskM.be {σ : MS} {a k x : Int32} (h : AskM σ a k x) (f : Nat → Int32) : AskM (ms_best σ f) a k x := h
