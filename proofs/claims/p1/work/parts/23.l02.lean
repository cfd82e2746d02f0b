theorem zd164_12 : ∀ e ∈ ze164_12, decode code e.1 = .ok (e.2.1, zlen e.2.1 e.2.2.1) := by decide +kernel
theorem zd164_13 : ∀ e ∈ ze164_13, decode code e.1 = .ok (e.2.1, zlen e.2.1 e.2.2.1) := by decide +kernel
theorem zd164_14 : ∀ e ∈ ze164_14, decode code e.1 = .ok (e.2.1, zlen e.2.1 e.2.2.1) := by decide +kernel
theorem zd164_15 : ∀ e ∈ ze164_15, decode code e.1 = .ok (e.2.1, zlen e.2.1 e.2.2.1) := by decide +kernel
theorem zd164_16 : ∀ e ∈ ze164_16, decode code e.1 = .ok (e.2.1, zlen e.2.1 e.2.2.1) := by decide +kernel
theorem zd164_17 : ∀ e ∈ ze164_17, decode code e.1 = .ok (e.2.1, zlen e.2.1 e.2.2.1) := by decide +kernel
