theorem qckF_all : qall 16 800 qckF = true := by decide +kernel
