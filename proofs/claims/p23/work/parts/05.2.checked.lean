section
end
