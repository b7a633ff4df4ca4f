/-! the reference's taking up, with what is known when it runs -/
